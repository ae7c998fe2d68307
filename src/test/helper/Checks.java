import java.util.Arrays;
import java.util.function.LongSupplier;
import java.util.function.ToLongFunction;

/**
 * What the tests have in common (a test extends it): it tells each answer that is not the one that is due, and
 * ends the test with exit code 1 if there was one.
 */
abstract class Checks {

    static final Class<?> INDEX = IndexOutOfBoundsException.class;
    static final Class<?> ARGUMENT = IllegalArgumentException.class;
    static final Class<?> STATE = IllegalStateException.class;

    private static final int MOST_TOLD = 50;

    private static String sentence = "";
    private static long checked = 0;
    private static long wrong = 0;

    /** The sentence of the document that the checks from here on hold. */
    static void sentence(String text) {
        sentence = text + " ";
    }

    static void due(String call, LongSupplier got, long want) {
        try {
            compare(call, got.getAsLong(), want);
        } catch (RuntimeException e) {
            checked++;
            tell(call + " threw " + e.getClass().getName() + ", due is " + want);
        }
    }

    static void compare(String call, long got, long want) {
        checked++;
        if (got != want) {
            tell(call + " answered " + got + ", due is " + want);
        }
    }

    static void dueText(String what, String got, String want) {
        checked++;
        if (!got.equals(want)) {
            tell(what + ": answers are\n" + got + "\ndue is\n" + want);
        }
    }

    static void dueThrow(String call, LongSupplier got, Class<?> want) {
        checked++;
        try {
            tell(call + " answered " + got.getAsLong() + ", due is " + want.getName());
        } catch (RuntimeException e) {
            if (e.getClass() != want) {
                tell(call + " threw " + e.getClass().getName() + ", due is " + want.getName());
            }
        }
    }

    /** The call throws, and behind it the object's picture is that of one to which the call was never made. */
    static void refused(Plane plane, String call, ToLongFunction<CellProjection> made, Class<?> want) {
        Plane asked = plane.twin();
        dueThrow(call, () -> asked.make(made), want);
        try {
            dueText("behind " + call, asked.picture(), plane.picture());
        } catch (RuntimeException e) {
            tell("behind " + call + " a call threw " + e.getClass().getName());
        }
    }

    /**
     * Numbers that aren't least .. most: the first ones on both sides, the smallest and the largest int, and some
     * that would be inside if a number were doubled or kept in fewer bits.
     */
    static int[] outside(int least, int most) {
        int[] numbers = {Integer.MIN_VALUE, Integer.MIN_VALUE + 1, Integer.MIN_VALUE + 2, -(1 << 30), -65536, -256,
            least - 2, least - 1, most + 1, most + 2, 256, 257, 65536, 65537, 1 << 30, (1 << 30) + 1,
            Integer.MAX_VALUE - 1, Integer.MAX_VALUE};
        return Arrays.stream(numbers).filter(n -> n < least || n > most).distinct().toArray();
    }

    static void dueCut(Plane x, int k, long above, long below) {
        due("cut(" + k + ", 0)", () -> x.cut(k, 0), above);
        due("cut(" + k + ", 1)", () -> x.cut(k, 1), below);
    }

    /** All cuts, each above and below. */
    static void dueCuts(Plane x, long... parts) {
        due("cuts()", x::cuts, parts.length / 2);
        for (int k = 0; k < parts.length / 2; k++) {
            dueCut(x, k, parts[2 * k], parts[2 * k + 1]);
        }
    }

    /** How many curves each strip has, and that there is no strip beyond. */
    static void dueCurves(Plane x, long... counts) {
        for (int k = 0; k < counts.length; k++) {
            int strip = k;
            due("curves(" + strip + ")", () -> x.curves(strip), counts[strip]);
        }
        dueThrow("curves(" + counts.length + ")", () -> x.curves(counts.length), INDEX);
    }

    /** A sample: x above and below, y above and below. */
    static void dueSample(Plane x, int cell, long... want) {
        for (int k = 0; k < 4; k++) {
            int letter = k / 2;
            int part = k % 2;
            due("sample(" + cell + ", " + letter + ", " + part + ")", () -> x.sample(cell, letter, part), want[k]);
        }
    }

    /** By cell the others that it touches: it touches these, in both orders, and itself, and none beside. */
    static void dueTouches(Plane x, int[]... others) {
        due("total()", x::total, others.length);
        for (int k = 0; k < others.length; k++) {
            int one = k;
            for (int n = 0; n < others.length; n++) {
                int other = n;
                boolean want = one == other || Arrays.stream(others[one]).anyMatch(touched -> touched == other);
                due("touch(" + one + ", " + other + ")", () -> one(x.touch(one, other)), one(want));
                due("touch(" + other + ", " + one + ")", () -> one(x.touch(other, one)), one(want));
            }
        }
    }

    static long one(boolean answer) {
        return answer ? 1 : 0;
    }

    static long dropped(CellProjection x, int line) {
        x.drop(line);
        return 0;
    }

    static long dropped(Plane x, int line) {
        x.drop(line);
        return 0;
    }

    static Plane of(int... numbers) {
        return Plane.of(numbers);
    }

    static void end() {
        System.out.println(wrong == 0 ? "all " + checked + " answers are as due"
                : wrong + " of " + checked + " answers are not as due");
        if (wrong != 0) {
            System.exit(1);
        }
    }

    private static void tell(String text) {
        wrong++;
        if (wrong <= MOST_TOLD) {
            System.out.println(sentence + text);
        }
    }
}
