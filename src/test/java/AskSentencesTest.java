import java.util.Arrays;

/** The document's sentences on SIGNS, on the CELL of a point, on finding a CELL, and on CELLS that TOUCH. */
public final class AskSentencesTest extends Checks {

    private static Plane ofCross() {
        return of(1, 1, 0, 1, -1, 0);
    }

    /** y = 0 .. y = 5: the cell with an odd number n is line n / 2. */
    private static Plane ofSixLevels() {
        return of(0, 1, 0, 0, 1, -1, 0, 1, -2, 0, 1, -3, 0, 1, -4, 0, 1, -5);
    }

    /** x = 0 .. x = 5, told with a below 0: the cell with an odd number n is line n / 2. */
    private static Plane ofSixUprights() {
        return of(-1, 0, 0, -1, 0, 1, -1, 0, 2, -1, 0, 3, -1, 0, 4, -1, 0, 5);
    }

    private static void dueAt(Plane x, int p, int q, int r, int s, int want) {
        due("at(" + p + ", " + q + ", " + r + ", " + s + ")", () -> x.at(p, q, r, s), want);
    }

    private static void refusedAt(Plane x, int p, int q, int r, int s) {
        refused(x, "at(" + p + ", " + q + ", " + r + ", " + s + ")", y -> y.at(p, q, r, s), ARGUMENT);
    }

    private static void dueFind(Plane x, int signs, int want) {
        due("find(" + signs + ")", () -> x.find(signs), want);
    }

    /** Terms: "Its SIGN at a point is 1, 0 or -1 as a x + b y + c is above 0, is 0, is below 0." */
    private static void signs() {
        sentence("Terms, Promise 10: \"SIGN .. 1, 0 or -1 as .. above 0, is 0, is below 0\":");
        int[][] lines = {{0, 1, 0, 1}, {0, -1, 0, -1}, {1, 0, 0, 1}, {-1, 0, 0, -1}, {6, 6, 6, 1}, {-6, -6, -6, -1},
            {6, -6, 6, -1}, {-6, 6, 6, 1}, {6, 0, -6, 1}, {-6, 0, -6, -1}, {-6, 1, -6, 1}, {6, -1, 6, -1}};
        for (int[] n : lines) {
            Plane x = of(n[0], n[1], n[2]);
            for (int k = 0; k < 3; k++) {
                int cell = k;
                due("sign(" + cell + ", 0) of " + n[0] + ", " + n[1] + ", " + n[2], () -> x.sign(cell, 0), n[3] * (cell - 1));
            }
        }
        Plane levels = ofSixLevels();
        Plane uprights = ofSixUprights();
        for (int k = 0; k < 13; k++) {
            for (int n = 0; n < 6; n++) {
                int cell = k;
                int line = n;
                int side = Integer.signum(cell - (2 * line + 1));
                due("of levels sign(" + cell + ", " + line + ")", () -> levels.sign(cell, line), side);
                due("of uprights sign(" + cell + ", " + line + ")", () -> uprights.sign(cell, line), -side);
            }
        }
    }

    /** Terms: "(In each CELL every LINE has the same SIGN at all points.)" */
    private static void sameSignAtAllPoints() {
        sentence("Terms: \"(In each CELL every LINE has the same SIGN at all points.)\":");
        int[][] lines = {{1, 1, 0}, {1, -1, 0}, {2, 0, -1}, {1, 2, -2}, {-3, 1, 1}, {0, 2, 1}};
        Plane x = new Plane();
        for (int[] n : lines) {
            x.line(n[0], n[1], n[2]);
        }
        for (int p = -9; p <= 9; p++) {
            for (int r = -9; r <= 9; r++) {
                int cell = x.at(p, 3, r, 4);
                for (int k = 0; k < 6; k++) {
                    int line = k;
                    int at = lines[k][0] * p * 4 + lines[k][1] * r * 3 + lines[k][2] * 12;
                    due("sign(" + cell + ", " + line + ")", () -> x.sign(cell, line), Integer.signum(at));
                }
            }
        }
    }

    /** Promise 11: "The CELL of a point whose x is p through q, y r through s.", out to the last numbers allowed. */
    private static void cellOfAPoint() {
        sentence("Promise 11: \"The CELL of a point whose x is p through q, y r through s.\":");
        Plane upright = of(1, 0, 0);
        Plane level = of(0, 1, 0);
        for (int p = -100; p <= 100; p++) {
            for (int q : new int[] {1, 2, 7, 50, 99, 100}) {
                dueAt(upright, p, q, 100, 1, Integer.signum(p) + 1);
                dueAt(level, -100, 1, p, q, Integer.signum(p) + 1);
            }
        }
        for (int q = 1; q <= 100; q++) {
            dueAt(upright, 1, q, 0, 1, 2);
            dueAt(upright, -1, q, 0, 1, 0);
            dueAt(level, 0, 1, 1, q, 2);
            dueAt(level, 0, 1, -1, q, 0);
        }
        Plane x = ofCross();
        dueAt(x, 100, 1, 100, 1, 11);
        dueAt(x, 100, 1, 99, 1, 10);
        dueAt(x, -100, 1, -100, 1, 1);
        dueAt(x, -100, 1, 100, 1, 3);
        dueAt(x, 100, 1, -100, 1, 9);
        // Points as near to y = x as such numbers allow, on both sides.
        dueAt(x, 100, 99, 99, 98, 12);
        dueAt(x, 99, 98, 100, 99, 10);
        dueAt(x, 99, 100, 98, 99, 10);
        dueAt(x, 98, 99, 99, 100, 12);
        dueAt(x, 1, 100, 1, 99, 12);
        dueAt(x, 1, 99, 1, 100, 10);
    }

    /** Promise 11: a point told by numbers that aren't in lowest terms is the same point. */
    private static void pointInOtherTerms() {
        sentence("Promise 11: \"x is p through q\", in other than lowest terms:");
        Plane x = of(2, 0, -1, 0, 3, -1);
        for (int k = 1; k <= 33; k++) {
            dueAt(x, k, 2 * k, k, 3 * k, 4);
            dueAt(x, k, 2 * k, -k, 3 * k, 3);
            dueAt(x, -k, 2 * k, k, 3 * k, 1);
        }
        dueAt(x, 0, 100, 0, 100, 0);
        dueAt(x, 100, 100, 100, 100, 8);
        dueAt(x, 50, 100, 33, 99, 4);
    }

    /** Promise 11: "IllegalArgumentException: a number isn't -100 .. 100". */
    private static void numberIsntNear() {
        sentence("Promise 11: \"IllegalArgumentException: a number isn't -100 .. 100\":");
        for (Plane x : new Plane[] {new Plane(), ofCross()}) {
            for (int n : outside(-100, 100)) {
                refusedAt(x, n, 1, 0, 1);
                refusedAt(x, 0, n, 0, 1);
                refusedAt(x, 0, 1, n, 1);
                refusedAt(x, 0, 1, 0, n);
                refusedAt(x, n, n, n, n);
            }
        }
        Plane x = ofCross();
        dueAt(x, -100, 100, -100, 100, 1);
        dueAt(x, 100, 100, 100, 100, 11);
    }

    /** Promise 11: "or q or s is below 1." */
    private static void belowTheBarIsBelow1() {
        sentence("Promise 11: \"or q or s is below 1\":");
        for (Plane x : new Plane[] {new Plane(), ofCross()}) {
            for (int n : outside(1, 100)) {
                refusedAt(x, 0, n, 0, 1);
                refusedAt(x, 0, 1, 0, n);
                refusedAt(x, 1, n, 1, n);
            }
            for (int n : new int[] {-100, -99, -2, -1, 0}) {
                refusedAt(x, 0, n, 0, 1);
                refusedAt(x, 0, 1, 0, n);
                refusedAt(x, n, n, n, n);
            }
        }
        Plane x = ofCross();
        dueAt(x, 0, 1, 0, 100, 6);
        dueAt(x, 0, 100, 0, 1, 6);
    }

    /** Promise 12: "by LINE k the k-th group of two bits, 0: any, 1: above 0, 2: below 0, 3: 0", all of them. */
    private static void findByGroups() {
        sentence("Promise 12: \"by LINE k the k-th group of two bits, 0: any, 1: above 0, 2: below 0, 3: 0\":");
        Plane levels = ofSixLevels();
        Plane uprights = ofSixUprights();
        for (int signs = 0; signs < 4096; signs++) {
            dueFind(levels, signs, firstOfThirteen(signs, 1));
            dueFind(uprights, signs, firstOfThirteen(signs, -1));
        }
    }

    /** Of cells 0 .. 12, where line k has the sign upwards above cell 2 k + 1, 0 in it and the other one below it. */
    private static int firstOfThirteen(int signs, int upwards) {
        for (int cell = 0; cell < 13; cell++) {
            boolean fits = true;
            for (int k = 0; k < 6; k++) {
                int sign = upwards * Integer.signum(cell - (2 * k + 1));
                int group = signs / (1 << 2 * k) % 4;
                fits &= group == 0 || group == (sign > 0 ? 1 : sign < 0 ? 2 : 3);
            }
            if (fits) {
                return cell;
            }
        }
        return -1;
    }

    /** Promise 12: "The first CELL with SIGNS as told", where several have them. */
    private static void findTheFirst() {
        sentence("Promise 12: \"The first CELL with SIGNS as told\":");
        Plane x = ofCross();
        // By groups for x + y (low) and x - y (high).
        int[] want = {0, 4, 0, 3, 0, 10, 0, 9, 2, 4, 2, 3, 1, 11, 1, 6};
        for (int signs = 0; signs < 16; signs++) {
            dueFind(x, signs, want[signs]);
        }
        // Above both lines: in the strip left of x = -5 already, though most such cells come behind.
        Plane three = of(1, -1, 0, 1, 1, 0, 0, 1, -5);
        dueFind(three, 0b000110, 6);
        dueFind(three, 0b110000, 3);
        dueFind(three, 0b001111, 20);
        dueFind(three, 0b111100, 10);
        dueFind(three, 0b110011, 34);
    }

    /** Promise 12: "(bits beyond LINES don't count)", for each number of LINES. */
    private static void bitsBeyondLines() {
        sentence("Promise 12: \"(bits beyond LINES don't count)\":");
        Plane x = new Plane();
        for (int lines = 0; lines <= 6; lines++) {
            int beyond = -1 << 2 * lines;
            dueFind(x, beyond, 0);
            dueFind(x, Integer.MIN_VALUE, 0);
            dueFind(x, 1 << 2 * lines, 0);
            dueFind(x, 2 << 2 * lines, 0);
            dueFind(x, 3 << 2 * lines, 0);
            for (int bit = 2 * lines; bit < 32; bit++) {
                dueFind(x, 1 << bit, 0);
            }
            if (lines > 0) {
                // The last group that counts: on line y = lines - 1, above it, below it.
                int last = 2 * (lines - 1);
                dueFind(x, beyond | 3 << last, 2 * lines - 1);
                dueFind(x, beyond | 1 << last, 2 * lines);
                dueFind(x, beyond | 2 << last, 0);
                dueFind(x, 3 << last, 2 * lines - 1);
            }
            if (lines < 6) {
                x.line(0, 1, -lines);
            }
        }
        dueFind(x, Integer.MAX_VALUE & ~0xFFF, 0);
    }

    /** Promise 12: the smallest and the largest int, and bits of a LINE that has gone. */
    private static void findOutermostInts() {
        sentence("Promise 12, the outermost ints:");
        Plane x = ofCross();
        dueFind(x, Integer.MAX_VALUE, 6);
        dueFind(x, -1, 6);
        dueFind(x, Integer.MIN_VALUE, 0);
        dueFind(x, Integer.MIN_VALUE + 15, 6);
        dueFind(x, Integer.MAX_VALUE - 15, 0);
        x.drop(1);
        dueFind(x, Integer.MAX_VALUE, 1);
        dueFind(x, 0b1101, 2);
        x.drop(0);
        dueFind(x, Integer.MAX_VALUE, 0);
    }

    /** Promise 12: "-1 if there is none." */
    private static void findNone() {
        sentence("Promise 12: \"-1 if there is none.\":");
        Plane parallels = of(0, 1, 0, 0, 1, -1);
        dueFind(parallels, 0b1111, -1);
        dueFind(parallels, 0b0110, -1);
        dueFind(parallels, 0b0111, -1);
        dueFind(parallels, 0b1110, -1);
        dueFind(parallels, -1, -1);
        dueFind(parallels, 0b1001, 2);
        dueFind(of(1, 1, 1, 1, 1, 1), 0b0110, -1);
        dueFind(of(1, 1, 1, -1, -1, -1), 0b0101, -1);
        dueFind(of(1, 1, 1, -1, -1, -1), 0b1001, 2);
        dueFind(of(1, 0, 0, 1, 0, 1), 0b1111, -1);
        dueFind(of(1, 1, 0, 1, -1, 0, 0, 1, -1), 0b111111, -1);
        dueFind(of(1, 1, 0, 1, -1, 0, 0, 1, -1), 0b101111, 20);
        // With the most strips there can be, no point is on three of the lines.
        Plane most = of(-4, 5, 6, 6, 1, -2, -5, -1, 6, 1, -1, 4, 0, 2, -5, 1, 1, 0);
        for (int one = 0; one < 6; one++) {
            for (int other = 0; other < one; other++) {
                for (int third = 0; third < other; third++) {
                    dueFind(most, 3 << 2 * one | 3 << 2 * other | 3 << 2 * third, -1);
                }
            }
        }
        dueFind(most, -1, -1);
    }

    /** Promise 12: "-1 if there is none", also where there were CELLS with such SIGNS before a LINE went. */
    private static void findNoneAnyMore() {
        sentence("Promise 12: \"-1 if there is none.\", behind a drop:");
        Plane levels = of(1, 0, 0, 1, 1, 0, 0, 1, 0, 0, 1, -1);
        dueFind(levels, 0b00111111, 20);
        levels.drop(0);
        levels.drop(0);
        for (int signs : new int[] {0b1111, 0b0110, 0b0111, 0b1110}) {
            dueFind(levels, signs, -1);
        }
        Plane uprights = of(1, 1, 0, 1, -1, 0, 1, 0, 0, 1, 0, 1);
        uprights.drop(1);
        uprights.drop(0);
        for (int signs : new int[] {0b1111, 0b1001, 0b1011, 0b1101}) {
            dueFind(uprights, signs, -1);
        }
    }

    /** Terms: TOUCH "(or is one)": a CELL has its own points. */
    private static void touchesItself() {
        sentence("Terms: TOUCH \"(or is one)\":");
        dueTouches(new Plane(), new int[] {});
        for (Plane x : new Plane[] {ofCross(), ofSixLevels(), ofSixUprights(), of(1, 0, 0, 0, 1, 0, 2, 3, 5)}) {
            for (int k = 0; k < x.total(); k++) {
                int cell = k;
                due("touch(" + cell + ", " + cell + ")", () -> one(x.touch(cell, cell)), 1);
            }
        }
    }

    /** Terms: TOUCH within a STRIP, and across STRIPS without CURVES: only the next one is near. */
    private static void touchesTheNext() {
        sentence("Terms: TOUCH \"as near as you like\", one over or beside the other:");
        int[][] chain = new int[13][];
        for (int cell = 0; cell < 13; cell++) {
            chain[cell] = cell == 0 ? new int[] {1} : cell == 12 ? new int[] {11} : new int[] {cell - 1, cell + 1};
        }
        dueTouches(ofSixLevels(), chain);
        dueTouches(ofSixUprights(), chain);
        dueTouches(of(1, 0, 0), new int[] {1}, new int[] {0, 2}, new int[] {1});
        dueTouches(of(6, 5, 4, -6, -5, -4), new int[] {1}, new int[] {0, 2}, new int[] {1});
    }

    /**
     * Terms: TOUCH at a CUT. Of a half line and a half cut that both end in the same point, neither has a point
     * that the other one comes near to.
     */
    private static void touchesAtACut() {
        sentence("Terms: TOUCH \"some point of one has points of the other one as near as you like\", at a CUT:");
        dueTouches(of(1, 0, 0, 0, 1, 0), new int[] {1, 3, 4}, new int[] {0, 2, 4}, new int[] {1, 4, 5},
                new int[] {0, 4, 6}, new int[] {0, 1, 2, 3, 5, 6, 7, 8}, new int[] {2, 4, 8}, new int[] {3, 4, 7},
                new int[] {4, 6, 8}, new int[] {4, 5, 7});
        dueTouches(ofCross(), new int[] {1, 5, 6}, new int[] {0, 2, 6}, new int[] {1, 3, 6}, new int[] {2, 4, 6},
                new int[] {3, 6, 7}, new int[] {0, 6, 8}, new int[] {0, 1, 2, 3, 4, 5, 7, 8, 9, 10, 11, 12},
                new int[] {4, 6, 12}, new int[] {5, 6, 9}, new int[] {6, 8, 10}, new int[] {6, 9, 11},
                new int[] {6, 10, 12}, new int[] {6, 7, 11});
    }

    /** Terms: TOUCH where a CUT goes through CURVES that don't cross there. */
    private static void touchesOverACrossing() {
        sentence("Terms: TOUCH over a crossing:");
        // y = x and y = -x cross at x = 0 (cells 12 .. 18, 19 .. 23, 24 .. 30 from there to the right); y = 5 is above.
        Plane x = of(1, -1, 0, 1, 1, 0, 0, 1, -5);
        int[][] ofTheCut = {{19, 12, 20, 24}, {20, 12, 13, 14, 15, 16, 19, 21, 24, 25, 26, 27, 28},
            {21, 16, 20, 22, 28}, {22, 16, 17, 18, 21, 23, 28, 29, 30}, {23, 18, 22, 30}};
        for (int[] cells : ofTheCut) {
            int one = cells[0];
            for (int n = 0; n < 43; n++) {
                int other = n;
                boolean want = Arrays.stream(cells).anyMatch(cell -> cell == other);
                due("touch(" + one + ", " + other + ")", () -> one(x.touch(one, other)), one(want));
                due("touch(" + other + ", " + one + ")", () -> one(x.touch(other, one)), one(want));
            }
        }
        // On both sides of a cut, though the same line goes through both.
        due("touch(17, 29)", () -> one(x.touch(17, 29)), 0);
        due("touch(18, 30)", () -> one(x.touch(18, 30)), 0);
        due("touch(0, 42)", () -> one(x.touch(0, 42)), 0);
    }

    /** Terms: TOUCH, by the document's own words: points a hundredth away from a point of the other CELL. */
    private static void touchesByPoints() {
        sentence("Terms: TOUCH, by points that are near each other:");
        Plane[] planes = {ofCross(), of(1, 0, 0, 0, 1, 0), of(1, 1, 0, 1, -1, 0, 1, 0, 0, 0, 1, 0),
            of(1, 1, 0, 1, -1, 0, 1, 1, -2, 1, -1, 2), of(1, 0, -1, 1, 1, 0, 0, 1, 1, 1, -1, 1)};
        for (Plane x : planes) {
            for (int px = -1; px <= 1; px++) {
                for (int py = -1; py <= 1; py++) {
                    dueTouchesAround(x, px, py);
                }
            }
        }
    }

    /** Around a point whose coordinates are whole, lines that miss it stay farther away than these points. */
    private static void dueTouchesAround(Plane x, int px, int py) {
        int one = x.at(px, 1, py, 1);
        for (int dx = -1; dx <= 1; dx++) {
            for (int dy = -1; dy <= 1; dy++) {
                // 50 px / 50 + dx / 50 keeps the numbers below 100.
                int other = x.at(50 * px + dx, 50, 50 * py + dy, 50);
                due("touch(" + one + ", " + other + ")", () -> one(x.touch(one, other)), 1);
                due("touch(" + other + ", " + one + ")", () -> one(x.touch(other, one)), 1);
            }
        }
    }

    public static void main(String[] args) {
        signs();
        sameSignAtAllPoints();
        cellOfAPoint();
        pointInOtherTerms();
        numberIsntNear();
        belowTheBarIsBelow1();
        findByGroups();
        findTheFirst();
        bitsBeyondLines();
        findOutermostInts();
        findNone();
        findNoneAnyMore();
        touchesItself();
        touchesTheNext();
        touchesAtACut();
        touchesOverACrossing();
        touchesByPoints();
        end();
    }
}
