/** Compares answers with what is due, and ends a test with exit code 1 if one was wrong. */
final class Due {
    static final long LOW = -1000000000000L;
    static final long BEYOND = LOW - 1;
    static final long NONE = LOW - 2;
    static final long KIND = LOW - 3;
    static final long FULL = LOW - 4;
    static final long STATE = LOW - 5;

    private static int asked = 0;
    private static int wrong = 0;

    private Due() {
    }

    static void is(String what, long got, long due) {
        asked++;
        if (got != due) {
            wrong++;
            System.out.println(what + " answered " + got + ", due is " + due);
        }
    }

    static void holds(String what, boolean right) {
        asked++;
        if (!right) {
            wrong++;
            System.out.println(what + " doesn't hold");
        }
    }

    static int wrongSoFar() {
        return wrong;
    }

    static void end() {
        System.out.println(asked + " asked, " + wrong + " wrong");
        if (wrong != 0 || asked == 0) {
            System.exit(1);
        }
    }
}
