import java.util.ArrayList;
import java.util.List;
import java.util.function.ToLongFunction;

/** The document's sentences on a new object, on LINES that come and go, and on how long an object is used. */
public final class LineSentencesTest extends Checks {

    private static final int[][] SIX = {{1, 1, 0}, {1, 0, -2}, {1, -1, 0}, {0, 1, -1}, {2, 3, -5}, {-2, 0, 4}};

    private static Plane ofFirst(int count) {
        Plane x = new Plane();
        for (int k = 0; k < count; k++) {
            x.line(SIX[k][0], SIX[k][1], SIX[k][2]);
        }
        return x;
    }

    private static String told(int a, int b, int c) {
        return "line(" + a + ", " + b + ", " + c + ")";
    }

    /** "An object is used for at most 512 calls after it has been made": the 512th is answered as the first. */
    private static void atMost512Calls() {
        sentence("What it is: \"at most 512 calls\":");
        due512th("line(0, 1, 0)", x -> x.line(0, 1, 0), 2);
        due512th("drop(1)", x -> dropped(x, 1), 0);
        due512th("cuts()", x -> x.cuts(), 1);
        due512th("cut(0, 1)", x -> x.cut(0, 1), 1);
        due512th("curves(1)", x -> x.curves(1), 1);
        due512th("total()", x -> x.total(), 13);
        due512th("cell(12, 0)", x -> x.cell(12, 0), 2);
        due512th("sample(12, 1, 0)", x -> x.sample(12, 1, 0), 2);
        due512th("sign(12, 0)", x -> x.sign(12, 0), 1);
        due512th("at(0, 1, 0, 1)", x -> x.at(0, 1, 0, 1), 6);
        due512th("find(15)", x -> x.find(15), 6);
        due512th("touch(6, 12)", x -> one(x.touch(6, 12)), 1);
        due512th("lines()", x -> x.lines(), 2);
        dueThrow("as the 512th call line(0, 0, 0)", () -> usedFor511Calls().line(0, 0, 0), ARGUMENT);
        dueThrow("as the 512th call drop(2)", () -> dropped(usedFor511Calls(), 2), INDEX);
        dueThrow("as the 512th call cut(0, 2)", () -> usedFor511Calls().cut(0, 2), ARGUMENT);
    }

    private static void due512th(String call, ToLongFunction<CellProjection> last, long want) {
        due("as the 512th call " + call, () -> last.applyAsLong(usedFor511Calls()), want);
        due("as the first call behind two lines " + call, () -> last.applyAsLong(ofCross()), want);
    }

    private static CellProjection ofCross() {
        CellProjection x = new CellProjection();
        x.line(1, 1, 0);
        x.line(1, -1, 0);
        return x;
    }

    /** Two calls, then 127 times four. */
    private static CellProjection usedFor511Calls() {
        CellProjection x = ofCross();
        for (int k = 0; k < 127; k++) {
            x.drop(0);
            x.line(1, 1, 0);
            x.drop(0);
            x.line(1, -1, 0);
        }
        x.lines();
        return x;
    }

    /** Promise 1: "No LINES." */
    private static void noLines() {
        sentence("Promise 1: \"No LINES.\":");
        Plane x = new Plane();
        due("lines()", x::lines, 0);
        due("cuts()", x::cuts, 0);
        due("total()", x::total, 1);
        dueCurves(x, 0);
        dueSample(x, 0, 0, 1, 0, 1);
        long[] ofTheOnlyCell = {0, 0, 2};
        for (int k = 0; k < 3; k++) {
            int what = k;
            due("cell(0, " + what + ")", () -> x.cell(0, what), ofTheOnlyCell[what]);
        }
        for (int signs : new int[] {0, 1, 2, 3, -1, Integer.MIN_VALUE, Integer.MAX_VALUE}) {
            due("find(" + signs + ")", () -> x.find(signs), 0);
        }
        for (int p : new int[] {-100, 0, 100}) {
            due("at(" + p + ", 1, 0, 1)", () -> x.at(p, 1, 0, 1), 0);
            due("at(0, 100, " + p + ", 100)", () -> x.at(0, 100, p, 100), 0);
        }
        due("touch(0, 0)", () -> one(x.touch(0, 0)), 1);
        refused(x, "drop(0)", y -> dropped(y, 0), INDEX);
        refused(x, "sign(0, 0)", y -> y.sign(0, 0), INDEX);
        refused(x, "cut(0, 0)", y -> y.cut(0, 0), INDEX);
        refused(x, "cell(1, 0)", y -> y.cell(1, 0), INDEX);
        due("the first line", () -> x.line(1, 1, 1), 0);
    }

    /** Promise 1 once more: a new object has no LINES whatever other objects have. */
    private static void noLinesBesideOtherObjects() {
        sentence("Promise 1: \"No LINES.\", beside other objects:");
        CellProjection one = new CellProjection();
        one.line(1, 0, 0);
        CellProjection other = new CellProjection();
        due("lines()", other::lines, 0);
        due("total()", other::total, 1);
        other.line(0, 1, 0);
        other.line(1, 1, 0);
        one.drop(0);
        due("lines() of the one", one::lines, 0);
        due("lines() of the other", other::lines, 2);
        due("total() of the other", other::total, 13);
    }

    /** Terms: "whole numbers a, b, c, -6 .. 6"; Promise 2: "IllegalArgumentException: it can't be one." */
    private static void numbersAreFromMinus6To6() {
        sentence("Terms: \"whole numbers a, b, c, -6 .. 6\":");
        for (int a = -8; a <= 8; a++) {
            for (int b = -8; b <= 8; b++) {
                for (int c = -8; c <= 8; c++) {
                    boolean inside = Math.max(Math.abs(a), Math.max(Math.abs(b), Math.abs(c))) <= 6;
                    if (inside && (a != 0 || b != 0)) {
                        taken(a, b, c);
                    } else {
                        refusedLine(new Plane(), a, b, c);
                    }
                }
            }
        }
        for (int lines = 0; lines <= 6; lines += 3) {
            Plane x = ofFirst(lines);
            for (int n : outside(-6, 6)) {
                refusedLine(x, n, 1, 0);
                refusedLine(x, 1, n, 0);
                refusedLine(x, 1, 1, n);
                refusedLine(x, n, n, n);
            }
        }
    }

    private static void refusedLine(Plane x, int a, int b, int c) {
        refused(x, told(a, b, c), y -> y.line(a, b, c), ARGUMENT);
    }

    /** What a single LINE makes of the plane, from its own numbers. */
    private static void taken(int a, int b, int c) {
        Plane x = new Plane();
        due(told(a, b, c), () -> x.line(a, b, c), 0);
        String behind = " behind " + told(a, b, c);
        due("lines()" + behind, x::lines, 1);
        due("total()" + behind, x::total, 3);
        due("cuts()" + behind, x::cuts, one(b == 0));
        int leading = b == 0 ? a : b;
        int divisor = divisorOf(Math.abs(c), Math.abs(leading));
        long above = -c * Integer.signum(leading) / divisor;
        long below = Math.abs(leading) / divisor;
        for (int k = 0; k < 3; k++) {
            int cell = k;
            long moved = above + (k - 1) * below;
            if (b == 0) {
                dueSample(x, cell, moved, below, 0, 1);
            } else {
                dueSample(x, cell, 0, 1, moved, below);
            }
            due("sign(" + cell + ", 0)" + behind, () -> x.sign(cell, 0), (cell - 1) * Integer.signum(leading));
        }
    }

    private static int divisorOf(int one, int other) {
        return other == 0 ? one : divisorOf(other, one % other);
    }

    /** Terms: "a and b not both 0"; Promise 2: "IllegalArgumentException: it can't be one." */
    private static void notBoth0() {
        sentence("Terms: \"a and b not both 0\":");
        for (int lines = 0; lines <= 6; lines++) {
            Plane x = ofFirst(lines);
            for (int c : new int[] {-6, -1, 0, 1, 6, -7, 7, Integer.MIN_VALUE, Integer.MAX_VALUE}) {
                refusedLine(x, 0, 0, c);
            }
        }
        int[][] nearly = {{0, 1, 0}, {0, -1, 0}, {1, 0, 0}, {-1, 0, 0}};
        for (int[] n : nearly) {
            due(told(n[0], n[1], n[2]), () -> new Plane().line(n[0], n[1], n[2]), 0);
        }
    }

    /** Terms: "there are up to 6, numbers 0, 1 .. in the order in which they came"; "One LINE more: its number." */
    private static void numbersInOrder() {
        sentence("Terms: \"numbers 0, 1 .. in the order in which they came\":");
        Plane x = new Plane();
        // Levels from above downwards: the order of numbers is not the order in the plane.
        for (int k = 0; k < 6; k++) {
            int line = k;
            due("line " + line, () -> x.line(0, 1, line - 6), line);
            due("lines()", x::lines, line + 1);
        }
        for (int k = 0; k < 6; k++) {
            int line = k;
            int cell = 11 - 2 * line;
            due("sign(" + cell + ", " + line + ")", () -> x.sign(cell, line), 0);
            dueSample(x, cell, 0, 1, 6 - line, 1);
        }
    }

    /** Promise 2: "IllegalStateException: there are 6.", and Terms: "there are up to 6". */
    private static void thereAre6() {
        sentence("Promise 2: \"IllegalStateException: there are 6.\":");
        Plane x = ofFirst(5);
        due("the sixth", () -> x.line(6, 6, 6), 5);
        int[][] seventh = {{1, 1, 1}, {6, 6, 6}, {-6, -6, -6}, {0, 1, 0}, {1, 0, 0}, {6, 6, -6}};
        for (int[] n : seventh) {
            refused(x, "the seventh " + told(n[0], n[1], n[2]), y -> y.line(n[0], n[1], n[2]), STATE);
        }
        Plane same = of(1, 1, 1, 1, 1, 1, 1, 1, 1, 1, 1, 1, 1, 1, 1);
        due("six that are the same are six", () -> same.line(1, 1, 1), 5);
        refused(same, "a seventh that is the same", y -> y.line(1, 1, 1), STATE);
        x.drop(0);
        due("room behind a drop", () -> x.line(1, 2, 3), 5);
        refused(x, "no room behind it", y -> y.line(1, 2, 3), STATE);
    }

    /** Promise 3: "A LINE goes; those behind it have one less as their numbers." */
    private static void oneGoes() {
        sentence("Promise 3: \"A LINE goes; those behind it have one less as their numbers.\":");
        for (int lines = 1; lines <= 6; lines++) {
            for (int gone = 0; gone < lines; gone++) {
                Plane x = ofFirst(lines);
                Plane rest = new Plane();
                for (int k = 0; k < lines; k++) {
                    if (k != gone) {
                        rest.line(SIX[k][0], SIX[k][1], SIX[k][2]);
                    }
                }
                x.drop(gone);
                dueText("drop(" + gone + ") of " + lines, x.picture(), rest.picture());
                rest.line(-3, 2, 1);
                due("the number of the next one", () -> x.line(-3, 2, 1), lines - 1);
                dueText("a line behind drop(" + gone + ") of " + lines, x.picture(), rest.picture());
            }
        }
    }

    /** Promise 3, "no such LINE": the first number that is none, on both sides, for each number of LINES. */
    private static void noSuchLineToDrop() {
        sentence("Promise 3, \"no such LINE\":");
        for (int lines = 0; lines <= 6; lines++) {
            Plane x = ofFirst(lines);
            for (int n : outside(0, lines - 1)) {
                refused(x, "drop(" + n + ") of " + lines, y -> dropped(y, n), INDEX);
            }
        }
        Plane emptied = ofFirst(2);
        emptied.drop(1);
        refused(emptied, "drop(1) of one that has gone", y -> dropped(y, 1), INDEX);
        emptied.drop(0);
        refused(emptied, "drop(0) of one that has gone", y -> dropped(y, 0), INDEX);
        dueText("all have gone", emptied.picture(), new Plane().picture());
    }

    /** Promise 14: "How many LINES there are." */
    private static void howManyLines() {
        sentence("Promise 14: \"How many LINES there are.\":");
        Plane x = new Plane();
        List<Integer> seen = new ArrayList<>();
        seen.add(x.lines());
        for (int[] n : SIX) {
            x.line(n[0], n[1], n[2]);
            seen.add(x.lines());
        }
        for (int k = 5; k >= 0; k--) {
            x.drop(k / 2);
            seen.add(x.lines());
        }
        dueText("lines()", seen.toString(), "[0, 1, 2, 3, 4, 5, 6, 5, 4, 3, 2, 1, 0]");
        due("lines() of the same twice", () -> of(1, 1, 1, 1, 1, 1, -1, -1, -1).lines(), 3);
    }

    public static void main(String[] args) {
        atMost512Calls();
        noLines();
        noLinesBesideOtherObjects();
        numbersAreFromMinus6To6();
        notBoth0();
        numbersInOrder();
        thereAre6();
        oneGoes();
        noSuchLineToDrop();
        howManyLines();
        end();
    }
}
