/** Counts answers that are not as due; end() makes the program fail if there was one. */
final class Check {
    private static int right = 0;
    private static int wrong = 0;
    private static String sentence = "";

    private Check() {
    }

    interface Call {
        void run();
    }

    /** The words of the document that the checks from here on are for. */
    static void sentence(String words) {
        sentence = "\"" + words + "\" ";
    }

    static void due(String what, long got, long want) {
        count(got == want, what + ": answered " + got + ", due is " + want);
    }

    private static void count(boolean asDue, String complaint) {
        if (asDue) {
            right++;
        } else {
            wrong++;
            System.out.println(sentence + complaint);
        }
    }

    static void illegal(String what, Call call) {
        raises(what, call, IllegalArgumentException.class);
    }

    static void outside(String what, Call call) {
        raises(what, call, IndexOutOfBoundsException.class);
    }

    private static void raises(String what, Call call, Class<?> want) {
        Class<?> got = null;
        try {
            call.run();
        } catch (RuntimeException e) {
            got = e.getClass();
        }
        count(got == want, what + ": threw " + got + ", due is " + want);
    }

    static void end() {
        System.out.println(right + " answers as due, " + wrong + " not");
        if (wrong != 0) {
            System.exit(1);
        }
    }
}
