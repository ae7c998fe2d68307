import java.util.ArrayList;
import java.util.List;
import java.util.function.ToLongFunction;

/**
 * A CellProjection that a test may ask as often as it likes. The document promises nothing beyond an object's
 * 512th call, so before that a new object takes its place, which has been through the same lines, drops and
 * refused calls.
 */
final class Plane {

    static final int MOST_CALLS = 512;

    private final List<ToLongFunction<CellProjection>> history = new ArrayList<>();
    private CellProjection object = new CellProjection();
    private int calls = 0;
    private String picture = null;

    static Plane of(int... numbers) {
        Plane plane = new Plane();
        for (int k = 0; k < numbers.length; k += 3) {
            plane.line(numbers[k], numbers[k + 1], numbers[k + 2]);
        }
        return plane;
    }

    /** Another object that has been through the same. */
    Plane twin() {
        Plane twin = new Plane();
        twin.history.addAll(history);
        twin.renew();
        return twin;
    }

    /** A call that the object keeps as part of what it has been through, whether it answers or throws. */
    long make(ToLongFunction<CellProjection> call) {
        CellProjection now = next();
        history.add(call);
        picture = null;
        return call.applyAsLong(now);
    }

    private CellProjection next() {
        if (calls >= MOST_CALLS) {
            renew();
        }
        calls++;
        return object;
    }

    private void renew() {
        if (history.size() >= MOST_CALLS) {
            throw new AssertionError("the test itself makes more calls than an object is promised to take");
        }
        object = new CellProjection();
        for (ToLongFunction<CellProjection> call : history) {
            try {
                call.applyAsLong(object);
            } catch (RuntimeException e) {
                // It was refused the first time too; the test looked at that then.
                continue;
            }
        }
        calls = history.size();
    }

    int line(int a, int b, int c) {
        return (int) make(x -> x.line(a, b, c));
    }

    void drop(int line) {
        make(x -> {
            x.drop(line);
            return 0;
        });
    }

    int cuts() {
        return next().cuts();
    }

    long cut(int k, int part) {
        return next().cut(k, part);
    }

    int curves(int strip) {
        return next().curves(strip);
    }

    int total() {
        return next().total();
    }

    int cell(int cell, int what) {
        return next().cell(cell, what);
    }

    long sample(int cell, int letter, int part) {
        return next().sample(cell, letter, part);
    }

    int sign(int cell, int line) {
        return next().sign(cell, line);
    }

    int at(int p, int q, int r, int s) {
        return next().at(p, q, r, s);
    }

    int find(int signs) {
        return next().find(signs);
    }

    boolean touch(int one, int other) {
        return next().touch(one, other);
    }

    int lines() {
        return next().lines();
    }

    /**
     * What it answers, as one text: all of lines, cuts, curves, cells, samples and signs; for touch the cells that
     * are near in number; some points and some signs to find. Kept until a call comes that could change it.
     */
    String picture() {
        if (picture == null) {
            picture = newPicture();
        }
        return picture;
    }

    String newPicture() {
        StringBuilder text = new StringBuilder();
        int lines = lines();
        int cuts = cuts();
        int total = total();
        text.append(lines).append(" lines ").append(cuts).append(" cuts ").append(total).append(" cells");
        for (int k = 0; k < cuts; k++) {
            text.append(' ').append(cut(k, 0)).append('/').append(cut(k, 1));
        }
        for (int strip = 0; strip < 2 * cuts + 1; strip++) {
            text.append(" |").append(curves(strip));
        }
        for (int cell = 0; cell < total; cell++) {
            pictureOf(cell, lines, total, text);
        }
        picturePoints(text);
        pictureFinds(lines, text);
        return text.toString();
    }

    private void pictureOf(int cell, int lines, int total, StringBuilder text) {
        text.append("\n").append(cell).append(':');
        for (int what = 0; what < 3; what++) {
            text.append(' ').append(cell(cell, what));
        }
        for (int k = 0; k < 4; k++) {
            text.append(k == 0 ? " at " : " ").append(sample(cell, k / 2, k % 2));
        }
        for (int k = 0; k < lines; k++) {
            text.append(k == 0 ? " signs " : " ").append(sign(cell, k));
        }
        text.append(" touches");
        // A cell touches none that is farther away than this in number: a strip has at most thirteen cells.
        for (int other = Math.max(0, cell - 26); other < Math.min(total, cell + 27); other++) {
            if (touch(cell, other)) {
                text.append(' ').append(other);
            }
        }
    }

    private void picturePoints(StringBuilder text) {
        text.append("\npoints");
        for (int p = -2; p <= 2; p++) {
            for (int r = -2; r <= 2; r++) {
                text.append(' ').append(at(p, 1, r, 1)).append(' ').append(at(p, 3, r, 2));
            }
        }
    }

    private void pictureFinds(int lines, StringBuilder text) {
        text.append("\nfinds");
        for (int k = 0; k < 2 * lines; k++) {
            text.append(' ').append(find(1 << k)).append(' ').append(find(3 << k)).append(' ').append(find(5 << k));
        }
        // Many that ask for all lines at once, so that some are found nowhere.
        for (int k = 0; k < 30; k++) {
            text.append(' ').append(find(k * 0x9E3779B9));
        }
    }
}
