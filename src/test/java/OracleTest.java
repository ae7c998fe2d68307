import java.math.BigInteger;
import java.util.ArrayList;
import java.util.List;
import java.util.TreeSet;

/**
 * Many sets of lines, each compared in all its answers with a second, slow way of working them out:
 * exact fractions, and for cells beside each other the rule that one cell lies at the edge of another
 * exactly if each line, those upright through the cuts too, has there the other's sign or 0.
 */
public final class OracleTest extends Checks {

    private record Fraction(BigInteger above, BigInteger below) implements Comparable<Fraction> {

        static Fraction of(long above, long below) {
            return of(BigInteger.valueOf(above), BigInteger.valueOf(below));
        }

        static Fraction of(BigInteger above, BigInteger below) {
            BigInteger g = above.gcd(below);
            if (below.signum() < 0) {
                g = g.negate();
            }
            return new Fraction(above.divide(g), below.divide(g));
        }

        Fraction plus(Fraction f) {
            return of(above.multiply(f.below).add(f.above.multiply(below)), below.multiply(f.below));
        }

        Fraction times(Fraction f) {
            return of(above.multiply(f.above), below.multiply(f.below));
        }

        @Override
        public int compareTo(Fraction f) {
            return above.multiply(f.below).compareTo(f.above.multiply(below));
        }
    }

    private record Line(int a, int b, int c) {

        int signAt(Fraction x, Fraction y) {
            return whole(a).times(x).plus(whole(b).times(y)).plus(whole(c)).above().signum();
        }

        Fraction heightAt(Fraction x) {
            return whole(a).times(x).plus(whole(c)).times(Fraction.of(-1, b));
        }
    }

    private record Cell(int strip, int place, Fraction x, Fraction y) { }

    private static final Fraction HALF = Fraction.of(1, 2);

    private static long seed = 20261115;

    private static Fraction whole(long number) {
        return Fraction.of(number, 1);
    }

    /** The same numbers in each run of the test. */
    private static int number(int least, int most) {
        seed = seed * 6364136223846793005L + 1442695040888963407L;
        return least + (int) Math.floorMod(seed >> 33, (long) (most - least + 1));
    }

    private static void due(List<Line> lines, String call, long got, long want) {
        // The lines are told only with an answer that is wrong: there are millions of answers.
        compare(got == want ? call : lines + ": " + call, got, want);
    }

    private static TreeSet<Fraction> cutsOf(List<Line> lines) {
        TreeSet<Fraction> cuts = new TreeSet<>();
        for (Line f : lines) {
            if (f.b == 0) {
                cuts.add(Fraction.of(-f.c, f.a));
            }
            for (Line g : lines) {
                // From both heights being the same: (a1/b1 - a2/b2) x = c2/b2 - c1/b1.
                if (f.b != 0 && g.b != 0 && f.a * g.b != g.a * f.b) {
                    Fraction slope = Fraction.of(f.a, f.b).plus(Fraction.of(-g.a, g.b));
                    Fraction rest = Fraction.of(g.c, g.b).plus(Fraction.of(-f.c, f.b));
                    cuts.add(rest.times(Fraction.of(slope.below, slope.above)));
                }
            }
        }
        return cuts;
    }

    private static List<Fraction> samplesOf(TreeSet<Fraction> marks) {
        List<Fraction> samples = new ArrayList<>();
        if (marks.isEmpty()) {
            samples.add(whole(0));
            return samples;
        }
        samples.add(marks.first().plus(whole(-1)));
        Fraction before = null;
        for (Fraction mark : marks) {
            if (before != null) {
                samples.add(before.plus(mark).times(HALF));
            }
            samples.add(mark);
            before = mark;
        }
        samples.add(marks.last().plus(whole(1)));
        return samples;
    }

    private static TreeSet<Fraction> heightsAt(List<Line> lines, Fraction x) {
        TreeSet<Fraction> heights = new TreeSet<>();
        for (Line f : lines) {
            if (f.b != 0) {
                heights.add(f.heightAt(x));
            }
        }
        return heights;
    }

    private static int[] signsIn(List<Line> lines, List<Fraction> cuts, Fraction x, Fraction y) {
        int[] signs = new int[lines.size() + cuts.size()];
        for (int k = 0; k < lines.size(); k++) {
            signs[k] = lines.get(k).signAt(x, y);
        }
        for (int k = 0; k < cuts.size(); k++) {
            signs[lines.size() + k] = x.compareTo(cuts.get(k));
        }
        return signs;
    }

    private static boolean isEdgeOf(int[] edge, int[] signs) {
        for (int k = 0; k < edge.length; k++) {
            if (edge[k] != 0 && edge[k] != signs[k]) {
                return false;
            }
        }
        return true;
    }

    private static void compare(Plane x, List<Line> lines, boolean allPairs) {
        List<Fraction> cuts = new ArrayList<>(cutsOf(lines));
        List<Fraction> samples = samplesOf(new TreeSet<>(cuts));
        due(lines, "lines()", x.lines(), lines.size());
        due(lines, "cuts()", x.cuts(), cuts.size());
        if (x.cuts() != cuts.size()) {
            return;
        }
        for (int k = 0; k < cuts.size(); k++) {
            due(lines, "cut(" + k + ", 0)", x.cut(k, 0), cuts.get(k).above.longValueExact());
            due(lines, "cut(" + k + ", 1)", x.cut(k, 1), cuts.get(k).below.longValueExact());
        }
        List<Cell> cells = new ArrayList<>();
        for (int strip = 0; strip < samples.size(); strip++) {
            TreeSet<Fraction> heights = heightsAt(lines, samples.get(strip));
            due(lines, "curves(" + strip + ")", x.curves(strip), heights.size());
            List<Fraction> places = samplesOf(heights);
            for (int place = 0; place < places.size(); place++) {
                cells.add(new Cell(strip, place, samples.get(strip), places.get(place)));
            }
        }
        due(lines, "total()", x.total(), cells.size());
        if (x.total() != cells.size()) {
            return;
        }
        List<int[]> signs = new ArrayList<>();
        for (Cell cell : cells) {
            signs.add(signsIn(lines, cuts, cell.x, cell.y));
        }
        compareCells(x, lines, cells, signs);
        comparePoints(x, lines, cuts, cells, signs);
        compareFinds(x, lines, signs);
        compareRefusals(x, lines, cuts.size(), cells.size());
        if (allPairs) {
            compareTouches(x, lines, signs);
        }
    }

    /** The first numbers on both sides that are none, and one farther away. */
    private static int[] outsideOf(int count) {
        return new int[] {-1, count, number(0, 1) == 0 ? number(Integer.MIN_VALUE / 2, -2) : count + number(1, 1000)};
    }

    private static void compareRefusals(Plane x, List<Line> lines, int cuts, int cells) {
        int none = number(0, 1) == 0 ? number(-1000, -1) : number(3, 1000);
        for (int n : outsideOf(cuts)) {
            dueThrow(lines + ": cut(" + n + ", " + none + ")", () -> x.cut(n, none), INDEX);
            dueThrow(lines + ": cut(" + n + ", 0)", () -> x.cut(n, 0), INDEX);
        }
        for (int n : outsideOf(2 * cuts + 1)) {
            dueThrow(lines + ": curves(" + n + ")", () -> x.curves(n), INDEX);
        }
        for (int n : outsideOf(cells)) {
            dueThrow(lines + ": cell(" + n + ", 0)", () -> x.cell(n, 0), INDEX);
            dueThrow(lines + ": cell(" + n + ", " + none + ")", () -> x.cell(n, none), INDEX);
            dueThrow(lines + ": sample(" + n + ", 1, 1)", () -> x.sample(n, 1, 1), INDEX);
            dueThrow(lines + ": sample(" + n + ", " + none + ", 0)", () -> x.sample(n, none, 0), INDEX);
            dueThrow(lines + ": sign(" + n + ", 0)", () -> x.sign(n, 0), INDEX);
            dueThrow(lines + ": touch(" + n + ", 0)", () -> one(x.touch(n, 0)), INDEX);
            dueThrow(lines + ": touch(0, " + n + ")", () -> one(x.touch(0, n)), INDEX);
        }
        for (int n : outsideOf(lines.size())) {
            dueThrow(lines + ": sign(0, " + n + ")", () -> x.sign(0, n), INDEX);
        }
        int cell = number(0, cells - 1);
        dueThrow(lines + ": cell(" + cell + ", " + none + ")", () -> x.cell(cell, none), ARGUMENT);
        dueThrow(lines + ": sample(" + cell + ", " + none + ", 0)", () -> x.sample(cell, none, 0), ARGUMENT);
        dueThrow(lines + ": sample(" + cell + ", 1, " + none + ")", () -> x.sample(cell, 1, none), ARGUMENT);
        if (cuts > 0) {
            dueThrow(lines + ": cut(0, " + none + ")", () -> x.cut(0, none), ARGUMENT);
        }
        dueThrow(lines + ": at(0, 0, 0, 1)", () -> x.at(0, 0, 0, 1), ARGUMENT);
        dueThrow(lines + ": at(0, 1, 101, 1)", () -> x.at(0, 1, 101, 1), ARGUMENT);
    }

    private static void compareCells(Plane x, List<Line> lines, List<Cell> cells, List<int[]> signs) {
        for (int n = 0; n < cells.size(); n++) {
            Cell cell = cells.get(n);
            due(lines, "cell(" + n + ", 0)", x.cell(n, 0), cell.strip);
            due(lines, "cell(" + n + ", 1)", x.cell(n, 1), cell.place);
            due(lines, "cell(" + n + ", 2)", x.cell(n, 2),
                    (cell.strip % 2 == 0 ? 1 : 0) + (cell.place % 2 == 0 ? 1 : 0));
            due(lines, "sample(" + n + ", 0, 0)", x.sample(n, 0, 0), cell.x.above.longValueExact());
            due(lines, "sample(" + n + ", 0, 1)", x.sample(n, 0, 1), cell.x.below.longValueExact());
            due(lines, "sample(" + n + ", 1, 0)", x.sample(n, 1, 0), cell.y.above.longValueExact());
            due(lines, "sample(" + n + ", 1, 1)", x.sample(n, 1, 1), cell.y.below.longValueExact());
            for (int k = 0; k < lines.size(); k++) {
                due(lines, "sign(" + n + ", " + k + ")", x.sign(n, k), signs.get(n)[k]);
            }
        }
    }

    private static void comparePoint(Plane x, List<Line> lines, List<Fraction> cuts, List<int[]> signs,
            int[] n) {
        int[] want = signsIn(lines, cuts, Fraction.of(n[0], n[1]), Fraction.of(n[2], n[3]));
        int due = -1;
        for (int cell = 0; cell < signs.size(); cell++) {
            if (java.util.Arrays.equals(signs.get(cell), want)) {
                due = cell;
            }
        }
        due(lines, "at(" + n[0] + ", " + n[1] + ", " + n[2] + ", " + n[3] + ")", x.at(n[0], n[1], n[2], n[3]), due);
    }

    private static void comparePoints(Plane x, List<Line> lines, List<Fraction> cuts, List<Cell> cells,
            List<int[]> signs) {
        for (int k = 0; k < 10; k++) {
            int far = k % 2 == 0 ? 100 : 6;
            comparePoint(x, lines, cuts, signs,
                    new int[] {number(-far, far), number(1, far), number(-far, far), number(1, far)});
        }
        for (int n = 0; n < cells.size(); n++) {
            Cell cell = cells.get(n);
            int[] point = {cell.x.above.intValue(), cell.x.below.intValue(), cell.y.above.intValue(),
                cell.y.below.intValue()};
            boolean near = cell.y.above.bitLength() < 31 && cell.y.below.bitLength() < 31;
            for (int number : point) {
                near = near && Math.abs(number) <= 100;
            }
            if (near) {
                due(lines, "at the sample of cell " + n, x.at(point[0], point[1], point[2], point[3]), n);
            }
        }
    }

    private static void compareFinds(Plane x, List<Line> lines, List<int[]> signs) {
        int[] asked = {0, 1, 2, 0, 2, 3, 0, 1};
        for (int k = 0; k < 20; k++) {
            int groups = number(Integer.MIN_VALUE / 2, Integer.MAX_VALUE / 2 - 1);
            int[] model = signs.get(number(0, signs.size() - 1));
            for (int n = 0; n < lines.size() && k % 2 == 0; n++) {
                // Half of them are made to fit some cell, so that not all answers are -1.
                int group = number(0, 1) == 0 ? 0 : model[n] == 0 ? 3 : model[n] > 0 ? 1 : 2;
                groups = groups & ~(3 << 2 * n) | group << 2 * n;
            }
            due(lines, "find(" + groups + ")", x.find(groups), firstWith(lines, signs, groups));
        }
        for (int group : asked) {
            due(lines, "find(" + group + ")", x.find(group), firstWith(lines, signs, group));
        }
    }

    private static int firstWith(List<Line> lines, List<int[]> signs, int groups) {
        for (int cell = 0; cell < signs.size(); cell++) {
            boolean fits = true;
            for (int k = 0; k < lines.size(); k++) {
                int group = groups >>> 2 * k & 3;
                int sign = signs.get(cell)[k];
                fits = fits && (group == 0 || group == 1 && sign == 1 || group == 2 && sign == -1
                        || group == 3 && sign == 0);
            }
            if (fits) {
                return cell;
            }
        }
        return -1;
    }

    private static void compareTouches(Plane x, List<Line> lines, List<int[]> signs) {
        for (int one = 0; one < signs.size(); one++) {
            for (int other = 0; other < signs.size(); other++) {
                boolean want = isEdgeOf(signs.get(one), signs.get(other)) || isEdgeOf(signs.get(other), signs.get(one));
                due(lines, "touch(" + one + ", " + other + ")", x.touch(one, other) ? 1 : 0, want ? 1 : 0);
            }
        }
    }

    private static Line anyLine(int far) {
        Line line = new Line(number(-far, far), number(-far, far), number(-far, far));
        return line.a == 0 && line.b == 0 ? new Line(number(1, far), 0, line.c) : line;
    }

    private static void compareSet(int most, int far, boolean allPairs) {
        Plane x = new Plane();
        List<Line> lines = new ArrayList<>();
        for (int k = 0; k < most; k++) {
            Line line = anyLine(far);
            due(lines, "line" + line, x.line(line.a, line.b, line.c), lines.size());
            lines.add(line);
        }
        compare(x, lines, allPairs);
        if (!lines.isEmpty()) {
            int gone = number(0, lines.size() - 1);
            x.drop(gone);
            lines.remove(gone);
            compare(x, lines, false);
            Line line = anyLine(far);
            due(lines, "line" + line, x.line(line.a, line.b, line.c), lines.size());
            lines.add(line);
            compare(x, lines, allPairs);
        }
    }

    /** A line comes or goes, or is refused because there are six or none; all is compared behind each step. */
    private static void compareWalk(int steps, int far) {
        Plane x = new Plane();
        List<Line> lines = new ArrayList<>();
        for (int k = 0; k < steps; k++) {
            // Mostly upwards in one half of the walk and downwards in the other, so that both ends are reached.
            boolean comes = number(0, 3) != 0 ^ k % 20 >= 10;
            if (comes) {
                stepUp(x, lines, anyLine(far));
            } else {
                stepDown(x, lines, number(0, 5));
            }
            compare(x, lines, k % 10 == 0);
        }
    }

    private static void stepUp(Plane x, List<Line> lines, Line line) {
        if (lines.size() == 6) {
            dueThrow(lines + ": line" + line, () -> x.line(line.a, line.b, line.c), STATE);
            dueThrow(lines + ": line(0, 0, 0)", () -> x.line(0, 0, 0), ARGUMENT);
        } else {
            due(lines, "line" + line, x.line(line.a, line.b, line.c), lines.size());
            lines.add(line);
        }
    }

    private static void stepDown(Plane x, List<Line> lines, int gone) {
        if (gone >= lines.size()) {
            dueThrow(lines + ": drop(" + gone + ")", () -> dropped(x, gone), INDEX);
        } else {
            x.drop(gone);
            lines.remove(gone);
        }
    }

    public static void main(String[] args) {
        for (int k = 0; k < 350; k++) {
            // Small numbers make parallels, uprights, equal lines and points over each other common.
            int far = k % 3 == 0 ? 1 : k % 3 == 1 ? 2 : 6;
            compareSet(k % 7, far, k % 5 == 0);
        }
        for (int k = 0; k < 6; k++) {
            compareWalk(100, k % 3 == 0 ? 1 : k % 3 == 1 ? 2 : 6);
        }
        end();
    }
}
