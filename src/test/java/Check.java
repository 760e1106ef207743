import java.util.NoSuchElementException;
import java.util.function.Supplier;

/** What the tests of the promises share: a yard to begin with, what is due, and the count of what was not so. */
abstract class Check {
    static final Class<IndexOutOfBoundsException> NO_SUCH = IndexOutOfBoundsException.class;
    static final Class<IllegalArgumentException> OFF_RANGE = IllegalArgumentException.class;
    static final Class<IllegalStateException> NOT_NOW = IllegalStateException.class;
    static final Class<NoSuchElementException> NONE = NoSuchElementException.class;
    static final Class<UnsupportedOperationException> CANNOT = UnsupportedOperationException.class;

    private static int right = 0;
    private static int wrong = 0;

    static Meshyard yard(int width, int height) {
        Meshyard yard = new Meshyard();
        yard.net(width, height);
        return yard;
    }

    /** A yard of 2 nodes with as many packets made, all from 0 to 1. */
    static Meshyard filled(int packets) {
        Meshyard yard = yard(2, 1);
        for (int i = 0; i < packets; i++) {
            yard.send(0, 1, i, 1);
        }
        return yard;
    }

    static void same(String what, Object due, Object got) {
        if (due.equals(got)) {
            right++;
        } else {
            wrong++;
            System.out.println(what + ": answered " + got + ", due is " + due);
        }
    }

    static void isTrue(String what, boolean got) {
        same(what, true, got);
    }

    /** The call must throw just this class, not one below it, and leave all that the object holds as it was. */
    static void raises(String what, Class<? extends RuntimeException> due, Meshyard yard, Supplier<Object> call) {
        String before = Inside.told(yard);
        Object got;
        try {
            got = call.get();
        } catch (RuntimeException e) {
            got = e.getClass();
        }
        same(what, due, got);
        isTrue(what + ", nothing changed", before.equals(Inside.told(yard)));
    }

    static void end(String test) {
        System.out.println(test + ": " + right + " right, " + wrong + " wrong");
        if (wrong != 0 || right == 0) {
            System.exit(1);
        }
    }
}
