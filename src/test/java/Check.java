import java.util.function.Supplier;

/** Counts what a test finds, and ends its program by that. */
final class Check {
    private static int right = 0;
    private static int wrong = 0;

    private Check() {
    }

    static void same(String what, Object due, Object got) {
        if (due.equals(got)) {
            right++;
        } else {
            wrong++;
            System.out.println(what + ": answered " + got + ", due is " + due);
        }
    }

    static void isTrue(String what, boolean got) {
        same(what, true, got);
    }

    /** The call must throw just this class, not one below it, and leave the chip's checksum as it was. */
    static void raises(String what, Class<? extends RuntimeException> due, Meshyard yard, Supplier<Object> call) {
        long before = yard.checksum();
        int packets = yard.packets();
        Object got;
        try {
            got = call.get();
        } catch (RuntimeException e) {
            got = e.getClass();
        }
        same(what, due, got);
        same(what + ", packets behind it", packets, yard.packets());
        same(what + ", checksum behind it", before, yard.checksum());
    }

    static void end(String test) {
        System.out.println(test + ": " + right + " right, " + wrong + " wrong");
        if (wrong != 0 || right == 0) {
            System.exit(1);
        }
    }
}
