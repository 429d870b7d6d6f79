/** Counts answers that are not as due; end() makes the program fail if there was one. */
final class Check {
    private static int right = 0;
    private static int wrong = 0;

    private Check() {
    }

    interface Call {
        void run();
    }

    static void due(String what, long got, long want) {
        if (got == want) {
            right++;
        } else {
            wrong++;
            System.out.println(what + ": answered " + got + ", due is " + want);
        }
    }

    static void illegal(String what, Call call) {
        raises(what, call, IllegalArgumentException.class);
    }

    static void outside(String what, Call call) {
        raises(what, call, IndexOutOfBoundsException.class);
    }

    private static void raises(String what, Call call, Class<?> want) {
        Class<?> got = null;
        try {
            call.run();
        } catch (RuntimeException e) {
            got = e.getClass();
        }
        if (got == want) {
            right++;
        } else {
            wrong++;
            System.out.println(what + ": threw " + got + ", due is " + want);
        }
    }

    static void end() {
        System.out.println(right + " answers as due, " + wrong + " not");
        if (wrong != 0) {
            System.exit(1);
        }
    }
}
