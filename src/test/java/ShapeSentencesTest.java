/** The document's sentences on CUTS, STRIPS, CURVES, CELLS and SAMPLES, and on how fractions are told. */
public final class ShapeSentencesTest extends Checks {

    /** Fifteen points, no two with the same x. */
    private static Plane ofMostCuts() {
        return of(-4, 5, 6, 6, 1, -2, -5, -1, 6, 1, -1, 4, 0, 2, -5, 1, 1, 0);
    }

    /** Cuts -2/3, -1/2 (where the two curves cross) and 3/2. */
    private static Plane ofUprightsAndCross() {
        return of(3, 0, 2, -4, 0, 6, 1, 1, 0, 6, -2, 4);
    }

    private static void dueCell(Plane x, int cell, long... want) {
        for (int k = 0; k < 3; k++) {
            int what = k;
            due("cell(" + cell + ", " + what + ")", () -> x.cell(cell, what), want[what]);
        }
    }

    /** Terms: "the x of a point of two LINES that aren't parallel". */
    private static void cutsOfTwoThatArentParallel() {
        sentence("Terms: \"the x of a point of two LINES that aren't parallel\":");
        dueCuts(of(1, 1, 0, 1, -1, 0), 0, 1);
        dueCuts(of(0, 1, 0, 1, 1, -6), 6, 1);
        dueCuts(of(1, 0, 2, 0, 1, 5), -2, 1);
        // As near to parallel as they get, and the farthest points to both sides.
        dueCuts(of(6, 5, 0, 5, 4, 0), 0, 1);
        dueCuts(of(6, 5, 6, 5, 4, -6), 54, 1);
        dueCuts(of(1, 6, 6, 1, 5, -6), 66, 1);
        dueCuts(of(1, 6, -6, 1, 5, 6), -66, 1);
        dueCuts(of(1, 5, -6, 1, 6, 6), 66, 1);
        dueCuts(of(-1, -6, -6, 1, 5, -6), 66, 1);
    }

    /** Terms: no CUT of two LINES that are parallel, the same LINE twice among them. */
    private static void noCutsOfParallels() {
        sentence("Terms: CUTS of \"two LINES that aren't parallel\", where they are:");
        Plane[] none = {of(1, 1, 0), of(1, 1, 0, 1, 1, 1), of(1, 1, 0, -1, -1, 6), of(1, 2, 0, 2, 4, 0, 3, 6, 1),
            of(0, 1, 0, 0, -1, 0, 0, 6, 5), of(1, 1, 1, 1, 1, 1), of(6, -3, 3, -4, 2, -2, 2, -1, 1)};
        for (Plane x : none) {
            dueCuts(x);
        }
        dueCuts(of(1, 0, 0, 1, 0, 1), -1, 1, 0, 1);
    }

    /** Terms: "or of all points of a LINE with b = 0". */
    private static void cutsOfUprights() {
        sentence("Terms: CUTS \"of all points of a LINE with b = 0\":");
        dueCuts(of(1, 0, 0), 0, 1);
        dueCuts(of(1, 0, 6), -6, 1);
        dueCuts(of(-1, 0, 6), 6, 1);
        dueCuts(of(6, 0, 1), -1, 6);
        dueCuts(of(-6, 0, 1), 1, 6);
        // One alone among leaning ones that are parallel; one that no leaning one has anything to do with.
        dueCuts(of(0, 1, 0, 2, 0, 1, 0, 1, 1), -1, 2);
        dueCuts(of(1, 0, 3, 1, 1, 0, 1, -1, 0), -3, 1, 0, 1);
    }

    /** Terms: "CUTS are the fractions": one that is the x of several points is one CUT. */
    private static void oneCutOfSeveralPoints() {
        sentence("Terms: \"the fractions\", one that is the x of several points:");
        dueCuts(of(1, 1, 0, 1, -1, 0, 1, 2, 0, 2, 1, 0, 0, 1, 0, 1, 0, 0), 0, 1);
        // (0, 0) and (0, 2), one over the other.
        dueCuts(of(1, 1, 0, 1, -1, 0, 1, 1, -2, 1, -1, 2), -1, 1, 0, 1, 1, 1);
        dueCuts(of(2, 0, -1, 4, 0, -2, -6, 0, 3), 1, 2);
        dueCuts(of(2, 0, -1, 1, 1, 0, 1, -1, 0, 1, 1, -1), 0, 1, 1, 2);
        // The same pair of leaning lines three times over, told by other numbers.
        dueCuts(of(1, 1, 0, 2, 2, 0, -3, -3, 0, 1, -1, 1, 3, -3, 3, -2, 2, -2), -1, 2);
    }

    /** Terms: "the fractions, rising", in whatever order their LINES come. */
    private static void cutsRise() {
        sentence("Terms: \"the fractions, rising\":");
        dueCuts(of(1, 0, -6, 5, 0, -1, 6, 0, -1, 6, 0, 1, 5, 0, 1, 1, 0, 6), -6, 1, -1, 5, -1, 6, 1, 6, 1, 5, 6, 1);
        dueCuts(of(1, 0, 6, 6, 0, 1, 5, 0, 1, 5, 0, -1, 6, 0, -1, 1, 0, -6), -6, 1, -1, 5, -1, 6, 1, 6, 1, 5, 6, 1);
        dueCuts(of(6, 0, -5, 5, 0, -4, 4, 0, -3), 3, 4, 4, 5, 5, 6);
        dueCuts(of(6, 0, 5, 5, 0, 4, 4, 0, 3), -5, 6, -4, 5, -3, 4);
        dueCuts(of(1, 0, 0, 6, 0, -1, 6, 0, 1), -1, 6, 0, 1, 1, 6);
    }

    /** Promise 4: "How many CUTS there are.", from none to the most, and when LINES go. */
    private static void howManyCuts() {
        sentence("Promise 4: \"How many CUTS there are.\":");
        due("no lines", () -> new Plane().cuts(), 0);
        due("one leaning", () -> of(1, 1, 0).cuts(), 0);
        due("six uprights", () -> of(1, 0, 0, 1, 0, 1, 1, 0, 2, 1, 0, 3, 1, 0, 4, 1, 0, 5).cuts(), 6);
        // By how many lines the fifteen points come about.
        long[] want = {0, 0, 1, 3, 6, 10, 15};
        Plane x = ofMostCuts();
        for (int k = 6; k > 0; k--) {
            due("of " + k + " lines", x::cuts, want[k]);
            x.drop(k - 1);
        }
        due("of none", x::cuts, 0);
        Plane shared = of(1, 1, 0, 1, -1, 0, 1, 0, 0);
        shared.drop(2);
        due("a cut stays that two others have", shared::cuts, 1);
        shared.drop(0);
        due("it goes with the last that had it", shared::cuts, 0);
    }

    /** Promise 5: "CUT k, part 0 or 1.", at the first and the last CUT. */
    private static void cutParts() {
        sentence("Promise 5: \"CUT k, part 0 or 1.\":");
        dueCuts(ofUprightsAndCross(), -2, 3, -1, 2, 3, 2);
        dueCuts(ofMostCuts(), -26, 1, -4, 1, -5, 2, -2, 1, -3, 2, -2, 7, -1, 12, 1, 3, 2, 5, 8, 17, 2, 3, 7, 10, 36, 29,
                3, 2, 37, 8);
    }

    /** Promise 5: "IllegalArgumentException: another part." */
    private static void anotherPartOfACut() {
        sentence("Promise 5: \"IllegalArgumentException: another part.\":");
        Plane x = ofUprightsAndCross();
        for (int part : outside(0, 1)) {
            for (int k = 0; k < 3; k++) {
                int cut = k;
                refused(x, "cut(" + cut + ", " + part + ")", y -> y.cut(cut, part), ARGUMENT);
            }
        }
    }

    /** Terms: "all x below the first CUT, it, all between it and the second one, .. all x above the last CUT". */
    private static void strips() {
        sentence("Terms: STRIPS are \"all x below the first CUT, it, all between ..\":");
        // Cuts -1 and 1; without curves each strip is one cell, so that at answers the strip.
        Plane x = of(1, 0, 1, 1, 0, -1);
        dueCurves(x, 0, 0, 0, 0, 0);
        int[][] points = {{-100, 1, 0}, {-2, 1, 0}, {-100, 99, 0}, {-1, 1, 1}, {-100, 100, 1}, {-99, 100, 2}, {0, 1, 2},
            {0, 100, 2}, {99, 100, 2}, {1, 1, 3}, {100, 100, 3}, {100, 99, 4}, {2, 1, 4}, {100, 1, 4}};
        for (int[] n : points) {
            due("at(" + n[0] + ", " + n[1] + ", 0, 1)", () -> x.at(n[0], n[1], 0, 1), n[2]);
        }
    }

    /** Terms: "all x if there is none." */
    private static void oneStripWithoutCuts() {
        sentence("Terms: STRIPS are \"all x if there is none\":");
        dueCurves(new Plane(), 0);
        dueCurves(of(1, 1, 0), 1);
        dueCurves(of(1, 1, 0, 1, 1, 1, 1, 1, 2, 1, 1, 3, 1, 1, 4, 1, 1, 5), 6);
        Plane x = of(0, 1, 0);
        for (int p = -100; p <= 100; p++) {
            int far = p;
            due("at(" + far + ", 1, 0, 1)", () -> x.at(far, 1, 0, 1), 1);
        }
    }

    /** Terms: "(Those with an odd number are CUTS.)" */
    private static void oddStripsAreCuts() {
        sentence("Terms: \"(Those with an odd number are CUTS.)\":");
        Plane x = ofMostCuts();
        int first = 0;
        for (int strip = 0; strip < 31; strip++) {
            if (strip % 2 == 1) {
                dueSample0(x, first, x.cut(strip / 2, 0), x.cut(strip / 2, 1));
            }
            first += 2 * x.curves(strip) + 1;
        }
        due("total()", x::total, first);
    }

    private static void dueSample0(Plane x, int cell, long above, long below) {
        due("sample(" + cell + ", 0, 0)", () -> x.sample(cell, 0, 0), above);
        due("sample(" + cell + ", 0, 1)", () -> x.sample(cell, 0, 1), below);
    }

    /** Terms: "CURVES of a STRIP are what LINES with b not 0 are there". */
    private static void curvesOfLeaningLines() {
        sentence("Terms: \"CURVES of a STRIP are what LINES with b not 0 are there\":");
        dueCurves(of(1, 0, 0), 0, 0, 0);
        dueCurves(of(1, 0, 0, 1, 0, 1), 0, 0, 0, 0, 0);
        dueCurves(of(0, 1, 0), 1);
        dueCurves(of(6, 1, 0), 1);
        dueCurves(of(1, 0, 0, 0, 1, 0), 1, 1, 1);
        dueCurves(of(1, 0, 0, 0, 1, 0, 0, -1, 1), 2, 2, 2);
    }

    /** Terms: "LINES that are the same there (at all its x) are one CURVE". */
    private static void sameLinesAreOneCurve() {
        sentence("Terms: \"LINES that are the same there (at all its x) are one CURVE\":");
        dueCurves(of(1, 1, 1, 1, 1, 1), 1);
        dueCurves(of(1, 1, 1, -1, -1, -1, 6, 6, 6, -2, -2, -2, 3, 3, 3, 5, 5, 5), 1);
        dueCurves(of(1, 1, 1, 1, 1, 2), 2);
        dueCurves(of(6, 6, 5, 5, 5, 4), 2);
        // The same at a cut alone: one curve there, two beside it.
        dueCurves(of(1, 1, 0, 1, -1, 0), 2, 1, 2);
        dueCurves(of(1, 1, 0, 1, -1, 0, 1, 2, 0, 2, 1, 0, 0, 1, 0, 1, -2, 0), 6, 1, 6);
        dueCurves(of(1, 1, 0, 1, -1, 0, 2, 2, 0, 1, 0, 3), 2, 2, 2, 1, 2);
        // Two points over each other at x = 0, beside two single ones.
        dueCurves(of(1, 1, 0, 1, -1, 0, 1, 1, -2, 1, -1, 2), 4, 3, 4, 2, 4, 3, 4);
    }

    /** Terms: CURVES "are in order from below upwards". */
    private static void curvesFromBelow() {
        sentence("Terms: CURVES \"are in order from below upwards\":");
        // y = x, y = -x and y = 5: by strip the lines that the curves are, from below.
        Plane x = of(1, -1, 0, 1, 1, 0, 0, 1, -5);
        int[][] lines = {{0, 2, 1}, {0, 2}, {0, 1, 2}, {0, 2}, {1, 0, 2}, {1, 2}, {1, 2, 0}};
        int first = 0;
        for (int[] curves : lines) {
            for (int k = 0; k < curves.length; k++) {
                int cell = first + 2 * k + 1;
                int line = curves[k];
                due("sign(" + cell + ", " + line + ")", () -> x.sign(cell, line), 0);
            }
            first += 2 * curves.length + 1;
        }
        due("total()", x::total, first);
    }

    /** Promise 6: "How many CURVES a STRIP has.", at the first and the last STRIP of none and of the most CUTS. */
    private static void howManyCurves() {
        sentence("Promise 6: \"How many CURVES a STRIP has.\":");
        long[] most = new long[31];
        for (int strip = 0; strip < 31; strip++) {
            most[strip] = strip % 2 == 0 ? 6 : 5;
        }
        dueCurves(ofMostCuts(), most);
        dueCurves(ofUprightsAndCross(), 2, 2, 2, 1, 2, 2, 2);
    }

    /** Terms: CELLS "from below: all points below the first CURVE, those on it, between it and the second one, ..". */
    private static void cellsFromBelow() {
        sentence("Terms: CELLS \"from below: all points below the first CURVE, those on it, ..\":");
        // Curves y = -1 and y = 1.
        Plane x = of(0, 1, 1, 0, 1, -1);
        int[][] points = {{-100, 1, 0}, {-2, 1, 0}, {-100, 99, 0}, {-1, 1, 1}, {-100, 100, 1}, {-99, 100, 2}, {0, 1, 2},
            {0, 100, 2}, {99, 100, 2}, {1, 1, 3}, {100, 100, 3}, {100, 99, 4}, {2, 1, 4}, {100, 1, 4}};
        for (int[] n : points) {
            due("at(0, 1, " + n[0] + ", " + n[1] + ")", () -> x.at(0, 1, n[0], n[1]), n[2]);
        }
    }

    /** Terms: CELLS are "all points without CURVES". */
    private static void oneCellWithoutCurves() {
        sentence("Terms: CELLS are \"all points without CURVES\":");
        Plane none = new Plane();
        Plane upright = of(1, 0, 0);
        for (int r = -100; r <= 100; r++) {
            int far = r;
            due("at(0, 1, " + far + ", 1) without lines", () -> none.at(0, 1, far, 1), 0);
            due("at(-1, 1, " + far + ", 1) left of an upright", () -> upright.at(-1, 1, far, 1), 0);
            due("at(0, 1, " + far + ", 1) on an upright", () -> upright.at(0, 1, far, 1), 1);
            due("at(1, 1, " + far + ", 1) right of an upright", () -> upright.at(1, 1, far, 1), 2);
        }
    }

    /** Terms: "All CELLS together have numbers, 0, 1 .. STRIP by STRIP." */
    private static void cellsStripByStrip() {
        sentence("Terms: \"All CELLS together have numbers, 0, 1 .. STRIP by STRIP.\":");
        Plane x = ofMostCuts();
        int cell = 0;
        for (int strip = 0; strip < 31; strip++) {
            int cells = strip % 2 == 0 ? 13 : 11;
            for (int place = 0; place < cells; place++) {
                dueCell(x, cell, strip, place, 2 - strip % 2 - place % 2);
                cell++;
            }
        }
        due("total()", x::total, cell);
    }

    /** Promise 7: "How many CELLS there are.", from one to the most. */
    private static void howManyCells() {
        sentence("Promise 7: \"How many CELLS there are.\":");
        due("no lines", () -> new Plane().total(), 1);
        due("an upright", () -> of(1, 0, 0).total(), 3);
        due("a level one", () -> of(0, 1, 0).total(), 3);
        due("the same twice", () -> of(2, 3, 4, -2, -3, -4).total(), 3);
        due("a cross", () -> of(1, 1, 0, 1, -1, 0).total(), 13);
        due("six through a point", () -> of(1, 1, 0, 1, -1, 0, 1, 2, 0, 2, 1, 0, 0, 1, 0, 1, -2, 0).total(), 29);
        due("six parallels", () -> of(1, 1, 0, 1, 1, 1, 1, 1, 2, 1, 1, 3, 1, 1, 4, 1, 1, 5).total(), 13);
        due("uprights and a cross", () -> ofUprightsAndCross().total(), 33);
        // Sixteen strips with six curves each and fifteen with five.
        due("the most", () -> ofMostCuts().total(), 16 * 13 + 15 * 11);
    }

    /** Promise 8: "0: its STRIP, 1: which one of it it is", at the first and the last CELL of STRIPS. */
    private static void stripAndPlace() {
        sentence("Promise 8: \"0: its STRIP, 1: which one of it it is\":");
        Plane x = ofUprightsAndCross();
        int[][] edges = {{0, 0, 0}, {4, 0, 4}, {5, 1, 0}, {9, 1, 4}, {10, 2, 0}, {14, 2, 4}, {15, 3, 0}, {17, 3, 2},
            {18, 4, 0}, {22, 4, 4}, {23, 5, 0}, {27, 5, 4}, {28, 6, 0}, {32, 6, 4}};
        for (int[] n : edges) {
            due("cell(" + n[0] + ", 0)", () -> x.cell(n[0], 0), n[1]);
            due("cell(" + n[0] + ", 1)", () -> x.cell(n[0], 1), n[2]);
        }
    }

    /** Promise 8: "how many ways one can go in it: 2, 1 (on a CURVE or a CUT), 0 (both)". */
    private static void waysToGo() {
        sentence("Promise 8: \"how many ways one can go in it: 2, 1 (on a CURVE or a CUT), 0 (both)\":");
        dueCell(new Plane(), 0, 0, 0, 2);
        // On a curve alone, on a cut alone.
        dueCell(of(0, 1, 0), 1, 0, 1, 1);
        dueCell(of(1, 0, 0), 1, 1, 0, 1);
        // A point: on an upright and a curve; where two curves cross; on a curve over a crossing.
        dueCell(of(1, 0, 0, 0, 1, 0), 4, 1, 1, 0);
        dueCell(of(1, 1, 0, 1, -1, 0), 6, 1, 1, 0);
        dueCell(of(1, -1, 0, 1, 1, 0, 0, 1, -5), 22, 3, 3, 0);
        // Beside a point, on its cut.
        dueCell(of(1, 0, 0, 0, 1, 0), 3, 1, 0, 1);
        dueCell(of(1, 0, 0, 0, 1, 0), 5, 1, 2, 1);
        dueCell(of(1, 0, 0, 0, 1, 0), 8, 2, 2, 2);
    }

    /** Promise 8: "IllegalArgumentException: another what." */
    private static void anotherWhat() {
        sentence("Promise 8: \"IllegalArgumentException: another what.\":");
        Plane x = ofUprightsAndCross();
        for (int what : outside(0, 2)) {
            for (int cell : new int[] {0, 16, 32}) {
                refused(x, "cell(" + cell + ", " + what + ")", y -> y.cell(cell, what), ARGUMENT);
            }
            refused(new Plane(), "cell(0, " + what + ") without lines", y -> y.cell(0, what), ARGUMENT);
        }
    }

    /** Terms: "A SAMPLE of a STRIP is an x: the CUT; halfway between two". */
    private static void sampleOfACutAndBetween() {
        sentence("Terms: SAMPLE \"the CUT; halfway between two\":");
        // Uprights at -1/5, 1/6, 1/5, 1/2, 3/2 and 6: eleven strips between and on them.
        Plane x = of(5, 0, 1, 6, 0, -1, 5, 0, -1, 2, 0, -1, 2, 0, -3, 1, 0, -6);
        long[][] want = {{-1, 5}, {-1, 60}, {1, 6}, {11, 60}, {1, 5}, {7, 20}, {1, 2}, {1, 1}, {3, 2}, {15, 4}, {6, 1}};
        for (int k = 0; k < want.length; k++) {
            dueSample(x, k + 1, want[k][0], want[k][1], 0, 1);
        }
        dueSample(of(5, 0, 1, 5, 0, -1), 2, 0, 1, 0, 1);
    }

    /** Terms: "the first one less 1, the last one and 1". */
    private static void sampleBeyondTheCuts() {
        sentence("Terms: SAMPLE \"the first one less 1, the last one and 1\":");
        Plane x = of(1, 0, 6, 1, 0, -6);
        dueSample(x, 0, -7, 1, 0, 1);
        dueSample(x, 4, 7, 1, 0, 1);
        Plane one = of(3, 0, -2);
        dueSample(one, 0, -1, 3, 0, 1);
        dueSample(one, 2, 5, 3, 0, 1);
        Plane half = of(2, 0, 1);
        dueSample(half, 0, -3, 2, 0, 1);
        dueSample(half, 2, 1, 2, 0, 1);
        Plane far = of(1, 6, 6, 1, 5, -6);
        dueSample(far, 0, 65, 1, -77, 6);
        dueSample(far, 12, 67, 1, -67, 6);
        dueSample(of(1, 0, -1), 0, 0, 1, 0, 1);
        dueSample(of(1, 0, 1), 2, 0, 1, 0, 1);
    }

    /** Terms: SAMPLE "0 without CUTS", and 0 without CURVES. */
    private static void sampleWithoutCuts() {
        sentence("Terms: SAMPLE \"0 without CUTS\":");
        dueSample(new Plane(), 0, 0, 1, 0, 1);
        Plane x = of(6, 6, 6, 6, 6, -6);
        for (int cell = 0; cell < 5; cell++) {
            dueSample(x, cell, 0, 1, cell - 2, 1);
        }
        dueSample(of(6, 0, 1), 1, -1, 6, 0, 1);
    }

    /** Terms: "A SAMPLE of a CELL is its STRIP's and a y, likewise by the y of CURVES there." */
    private static void sampleOfACell() {
        sentence("Terms: SAMPLE \"and a y, likewise by the y of CURVES there\":");
        Plane levels = of(0, 5, 1, 0, 6, -1, 0, 5, -1, 0, 2, -1, 0, 2, -3, 0, 1, -6);
        long[][] want = {{-6, 5}, {-1, 5}, {-1, 60}, {1, 6}, {11, 60}, {1, 5}, {7, 20}, {1, 2}, {1, 1}, {3, 2}, {15, 4},
            {6, 1}, {7, 1}};
        for (int cell = 0; cell < want.length; cell++) {
            dueSample(levels, cell, 0, 1, want[cell][0], want[cell][1]);
        }
        // y = -x and y = 3 x + 2 cross at (-1/2, 1/2); the samples beside are at -7/12 and 1/2.
        Plane x = ofUprightsAndCross();
        dueSample(x, 5, -2, 3, -1, 1);
        dueSample(x, 6, -2, 3, 0, 1);
        dueSample(x, 7, -2, 3, 1, 3);
        dueSample(x, 8, -2, 3, 2, 3);
        dueSample(x, 9, -2, 3, 5, 3);
        dueSample(x, 10, -7, 12, -3, 4);
        dueSample(x, 11, -7, 12, 1, 4);
        dueSample(x, 12, -7, 12, 5, 12);
        dueSample(x, 13, -7, 12, 7, 12);
        dueSample(x, 14, -7, 12, 19, 12);
        dueSample(x, 15, -1, 2, -1, 2);
        dueSample(x, 16, -1, 2, 1, 2);
        dueSample(x, 17, -1, 2, 3, 2);
        dueSample(x, 18, 1, 2, -3, 2);
        dueSample(x, 20, 1, 2, 3, 2);
        dueSample(x, 32, 5, 2, 21, 2);
    }

    /** Terms: a SAMPLE whose numbers are among the largest there are. */
    private static void largestSamples() {
        sentence("Terms: SAMPLE, the largest numbers:");
        dueSample(of(-6, 6, -1, -5, 6, -1, -2, 5, -3, 6, 5, 6), 38, -5207, 8052, -7463, 483120);
        dueSample(of(6, 5, -6, -4, -1, -1, 5, -6, -1, 6, -6, -1, -5, 6, -3, -2, 5, -5), 226, 5207, 8052, 554999, 483120);
        dueSample(of(-6, 5, 6, 5, 6, 4, -3, -5, -4, -6, -6, -1, 0, -3, 6), 102, 2947, 8052, -481009, 483120);
    }

    /** Terms: "Fractions are told in lowest terms, above (0) and below (1), below above 0." */
    private static void lowestTerms() {
        sentence("Terms: \"Fractions are told in lowest terms, .. below above 0.\":");
        dueCuts(of(4, 0, -2), 1, 2);
        dueCuts(of(-4, 0, 2), 1, 2);
        dueCuts(of(6, 0, 4), -2, 3);
        dueCuts(of(-6, 0, -4), -2, 3);
        dueCuts(of(6, 0, 6), -1, 1);
        dueCuts(of(-6, 0, 6), 1, 1);
        dueCuts(of(5, 0, 0), 0, 1);
        dueCuts(of(-5, 0, 0), 0, 1);
        dueCuts(of(6, 6, 6, 6, -6, 6), -1, 1);
        dueCuts(of(6, -6, 6, 6, 6, 6), -1, 1);
        dueCuts(of(6, 6, 0, -6, 6, 0), 0, 1);
        dueCuts(of(6, -6, -5, 5, 6, 0), 5, 11);
        dueCuts(of(6, 5, 1, -5, 6, 0), -6, 61);
        dueCuts(of(-5, 6, 0, 6, 5, 1), -6, 61);
        dueSample(of(0, -6, -4), 1, 0, 1, -2, 3);
        dueSample(of(0, -5, 0), 1, 0, 1, 0, 1);
        dueSample(of(0, 4, -2, 0, 4, 2), 2, 0, 1, 0, 1);
    }

    /** Promise 9: "IllegalArgumentException: another letter, part." */
    private static void anotherLetterOrPart() {
        sentence("Promise 9: \"IllegalArgumentException: another letter, part.\":");
        Plane x = ofUprightsAndCross();
        for (int n : outside(0, 1)) {
            for (int cell : new int[] {0, 16, 32}) {
                for (int good = 0; good < 2; good++) {
                    int inside = good;
                    refused(x, "sample(" + cell + ", " + n + ", " + inside + ")", y -> y.sample(cell, n, inside), ARGUMENT);
                    refused(x, "sample(" + cell + ", " + inside + ", " + n + ")", y -> y.sample(cell, inside, n), ARGUMENT);
                }
                refused(x, "sample(" + cell + ", " + n + ", " + n + ")", y -> y.sample(cell, n, n), ARGUMENT);
            }
        }
    }

    public static void main(String[] args) {
        cutsOfTwoThatArentParallel();
        noCutsOfParallels();
        cutsOfUprights();
        oneCutOfSeveralPoints();
        cutsRise();
        howManyCuts();
        cutParts();
        anotherPartOfACut();
        strips();
        oneStripWithoutCuts();
        oddStripsAreCuts();
        curvesOfLeaningLines();
        sameLinesAreOneCurve();
        curvesFromBelow();
        howManyCurves();
        cellsFromBelow();
        oneCellWithoutCurves();
        cellsStripByStrip();
        howManyCells();
        stripAndPlace();
        waysToGo();
        anotherWhat();
        sampleOfACutAndBetween();
        sampleBeyondTheCuts();
        sampleWithoutCuts();
        sampleOfACell();
        largestSamples();
        lowestTerms();
        anotherLetterOrPart();
        end();
    }
}
