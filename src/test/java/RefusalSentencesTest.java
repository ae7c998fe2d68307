import java.util.function.ToLongFunction;

/** The document's sentences on which exception is thrown, where several could be, and on what a refused call changes. */
public final class RefusalSentencesTest extends Checks {

    /** An object with how many LINES, CUTS, STRIPS and CELLS it has, counted by hand. */
    private record Sized(Plane plane, int lines, int cuts, int strips, int cells) { }

    private record Call(String text, ToLongFunction<CellProjection> made, Class<?> due) { }

    private static Sized[] ofAllSizes() {
        return new Sized[] {
            new Sized(new Plane(), 0, 0, 1, 1),
            new Sized(of(0, 1, 0), 1, 0, 1, 3),
            new Sized(of(1, 0, 0), 1, 1, 3, 3),
            new Sized(of(1, 1, 0, 1, -1, 0), 2, 1, 3, 13),
            new Sized(of(3, 0, 2, -4, 0, 6, 1, 1, 0, 6, -2, 4), 4, 3, 7, 33),
            new Sized(of(-4, 5, 6, 6, 1, -2, -5, -1, 6, 1, -1, 4, 0, 2, -5, 1, 1, 0), 6, 15, 31, 373)};
    }

    /** What is left when the last LINES of the most CUTS have gone: a cross, where there was far more. */
    private static Sized ofLessThanThereWas() {
        Plane x = of(-4, 5, 6, 6, 1, -2, -5, -1, 6, 1, -1, 4, 0, 2, -5, 1, 1, 0);
        for (int k = 5; k >= 2; k--) {
            x.drop(k);
        }
        return new Sized(x, 2, 1, 3, 13);
    }

    /** "IndexOutOfBoundsException: no such LINE" (drop, sign). */
    private static void noSuchLine(Sized of) {
        sentence("\"IndexOutOfBoundsException: no such LINE\", of " + of.lines + ":");
        for (int n : outside(0, of.lines - 1)) {
            refused(of.plane, "drop(" + n + ")", x -> dropped(x, n), INDEX);
            refused(of.plane, "sign(0, " + n + ")", x -> x.sign(0, n), INDEX);
            refused(of.plane, "sign(last, " + n + ")", x -> x.sign(of.cells - 1, n), INDEX);
        }
        for (int k = 0; k < of.lines; k++) {
            int line = k;
            Plane twin = of.plane.twin();
            due("drop(" + line + ")", () -> dropped(twin, line), 0);
            due("sign(0, " + line + ") is 1, 0 or -1", () -> Math.abs(of.plane.sign(0, line)) / 2, 0);
        }
    }

    /** "IndexOutOfBoundsException: no such .. CUT" (cut). */
    private static void noSuchCut(Sized of) {
        sentence("\"IndexOutOfBoundsException: no such .. CUT\", of " + of.cuts + ":");
        for (int n : outside(0, of.cuts - 1)) {
            refused(of.plane, "cut(" + n + ", 0)", x -> x.cut(n, 0), INDEX);
            refused(of.plane, "cut(" + n + ", 1)", x -> x.cut(n, 1), INDEX);
        }
        for (int k = 0; k < of.cuts; k++) {
            int cut = k;
            due("cut(" + cut + ", 1) is above 0", () -> Long.signum(of.plane.cut(cut, 1)), 1);
        }
    }

    /** "IndexOutOfBoundsException: no such .. STRIP" (curves). */
    private static void noSuchStrip(Sized of) {
        sentence("\"IndexOutOfBoundsException: no such .. STRIP\", of " + of.strips + ":");
        for (int n : outside(0, of.strips - 1)) {
            refused(of.plane, "curves(" + n + ")", x -> x.curves(n), INDEX);
        }
        long curves = 0;
        for (int strip = 0; strip < of.strips; strip++) {
            curves += of.plane.curves(strip);
        }
        compare("the curves of all strips, twice, and one cell more in each", 2 * curves + of.strips, of.cells);
    }

    /** "IndexOutOfBoundsException: no such .. CELL" (cell, sample, sign, touch). */
    private static void noSuchCell(Sized of) {
        sentence("\"IndexOutOfBoundsException: no such .. CELL\", of " + of.cells + ":");
        int last = of.cells - 1;
        for (int n : outside(0, last)) {
            refused(of.plane, "cell(" + n + ", 0)", x -> x.cell(n, 0), INDEX);
            refused(of.plane, "cell(" + n + ", 2)", x -> x.cell(n, 2), INDEX);
            refused(of.plane, "sample(" + n + ", 0, 0)", x -> x.sample(n, 0, 0), INDEX);
            refused(of.plane, "sample(" + n + ", 1, 1)", x -> x.sample(n, 1, 1), INDEX);
            refused(of.plane, "sign(" + n + ", 0)", x -> x.sign(n, 0), INDEX);
            refused(of.plane, "touch(" + n + ", 0)", x -> one(x.touch(n, 0)), INDEX);
            refused(of.plane, "touch(last, " + n + ")", x -> one(x.touch(last, n)), INDEX);
            refused(of.plane, "touch(" + n + ", " + n + ")", x -> one(x.touch(n, n)), INDEX);
        }
        due("cell(last, 0)", () -> of.plane.cell(last, 0), of.strips - 1);
        due("cell(0, 0)", () -> of.plane.cell(0, 0), 0);
        due("sample(last, 0, 1) is above 0", () -> Long.signum(of.plane.sample(last, 0, 1)), 1);
        due("touch(last, last)", () -> one(of.plane.touch(last, last)), 1);
    }

    /** "Of several the one that stands first behind "throws" is thrown", for line. */
    private static void firstOfSeveralForLine() {
        sentence("\"Of several the one that stands first behind \"throws\" is thrown\", line:");
        Plane full = of(1, 1, 0, 1, -1, 0, 1, 0, 0, 0, 1, 0, 2, 3, 4, 6, 6, 6);
        for (int n : outside(-6, 6)) {
            refused(full, "line(" + n + ", 1, 0) when full", x -> x.line(n, 1, 0), ARGUMENT);
            refused(full, "line(1, " + n + ", 0) when full", x -> x.line(1, n, 0), ARGUMENT);
            refused(full, "line(1, 1, " + n + ") when full", x -> x.line(1, 1, n), ARGUMENT);
        }
        for (int n = -6; n <= 6; n++) {
            int c = n;
            refused(full, "line(0, 0, " + c + ") when full", x -> x.line(0, 0, c), ARGUMENT);
            refused(full, "line(6, -6, " + c + ") when full", x -> x.line(6, -6, c), STATE);
        }
    }

    /** The same for cut, cell and sample: no such number comes before another part, what or letter. */
    private static void firstOfSeveralForNumbers(Sized of) {
        sentence("\"Of several the one that stands first behind \"throws\" is thrown\", numbers:");
        int[] others = {Integer.MIN_VALUE, -1, 2, 3, Integer.MAX_VALUE};
        for (int other : others) {
            for (int n : new int[] {Integer.MIN_VALUE, -1, of.cuts, Integer.MAX_VALUE}) {
                refused(of.plane, "cut(" + n + ", " + other + ")", x -> x.cut(n, other), INDEX);
            }
            for (int n : new int[] {Integer.MIN_VALUE, -1, of.cells, Integer.MAX_VALUE}) {
                refused(of.plane, "cell(" + n + ", " + (other | 3) + ")", x -> x.cell(n, other | 3), INDEX);
                refused(of.plane, "sample(" + n + ", " + other + ", 0)", x -> x.sample(n, other, 0), INDEX);
                refused(of.plane, "sample(" + n + ", 0, " + other + ")", x -> x.sample(n, 0, other), INDEX);
                refused(of.plane, "sample(" + n + ", 1, " + other + ")", x -> x.sample(n, 1, other), INDEX);
                refused(of.plane, "sample(" + n + ", " + other + ", " + other + ")", x -> x.sample(n, other, other),
                        INDEX);
                refused(of.plane, "sign(" + n + ", -1)", x -> x.sign(n, -1), INDEX);
            }
        }
    }

    /** "nothing changes": many refused calls of all kinds to one object, before, between and behind its lines. */
    private static void nothingChanges() {
        sentence("\"nothing changes\":");
        Call[] calls = {
            new Call("line(0, 0, 1)", x -> x.line(0, 0, 1), ARGUMENT),
            new Call("line(7, 1, 1)", x -> x.line(7, 1, 1), ARGUMENT),
            new Call("line(1, -7, 1)", x -> x.line(1, -7, 1), ARGUMENT),
            new Call("line(1, 1, 7)", x -> x.line(1, 1, 7), ARGUMENT),
            new Call("drop(6)", x -> dropped(x, 6), INDEX),
            new Call("drop(-1)", x -> dropped(x, -1), INDEX),
            new Call("cut(15, 0)", x -> x.cut(15, 0), INDEX),
            new Call("curves(31)", x -> x.curves(31), INDEX),
            new Call("cell(0, 3)", x -> x.cell(0, 3), ARGUMENT),
            new Call("cell(373, 0)", x -> x.cell(373, 0), INDEX),
            new Call("sample(0, 2, 0)", x -> x.sample(0, 2, 0), ARGUMENT),
            new Call("sample(0, 1, 2)", x -> x.sample(0, 1, 2), ARGUMENT),
            new Call("sample(373, 1, 1)", x -> x.sample(373, 1, 1), INDEX),
            new Call("sign(0, 6)", x -> x.sign(0, 6), INDEX),
            new Call("at(0, 0, 0, 1)", x -> x.at(0, 0, 0, 1), ARGUMENT),
            new Call("at(101, 1, 0, 1)", x -> x.at(101, 1, 0, 1), ARGUMENT),
            new Call("touch(0, 373)", x -> one(x.touch(0, 373)), INDEX)};
        int[][] lines = {{1, 1, 0}, {1, -1, 0}, {2, 0, -1}, {1, 2, -2}, {-3, 1, 1}, {0, 2, 1}};
        Plane asked = new Plane();
        Plane never = new Plane();
        for (int[] n : lines) {
            for (Call call : calls) {
                dueThrow(call.text, () -> asked.make(call.made), call.due);
            }
            due("line", () -> asked.line(n[0], n[1], n[2]), never.line(n[0], n[1], n[2]));
            dueText("behind refused calls", asked.picture(), never.picture());
        }
        dueThrow("a seventh line", () -> asked.line(1, 1, 1), STATE);
        dueText("behind a seventh line", asked.picture(), never.picture());
        asked.drop(2);
        never.drop(2);
        for (Call call : calls) {
            dueThrow(call.text, () -> asked.make(call.made), call.due);
        }
        dueText("behind a drop and refused calls", asked.picture(), never.picture());
    }

    /** Asking changes nothing either: the same question has the same answer whatever was asked in between. */
    private static void askingChangesNothing() {
        sentence("a question asked between others:");
        Plane x = of(1, 1, 0, 1, -1, 0, 2, 0, -1);
        due("the whole picture twice", () -> one(x.newPicture().equals(x.newPicture())), 1);
        int total = x.total();
        for (int k = 0; k < total; k++) {
            int cell = k;
            long above = x.sample(cell, 1, 0);
            x.at(k - 10, 3, 10 - k, 7);
            x.find(k);
            x.touch(k, total - 1 - k);
            x.sample(total - 1 - k, 1, 0);
            due("sample(" + cell + ", 1, 0) once more", () -> x.sample(cell, 1, 0), above);
        }
    }

    public static void main(String[] args) {
        for (Sized of : ofAllSizes()) {
            noSuchLine(of);
            noSuchCut(of);
            noSuchStrip(of);
            noSuchCell(of);
            firstOfSeveralForNumbers(of);
        }
        Sized less = ofLessThanThereWas();
        noSuchLine(less);
        noSuchCut(less);
        noSuchStrip(less);
        noSuchCell(less);
        firstOfSeveralForLine();
        nothingChanges();
        askingChangesNothing();
        end();
    }
}
