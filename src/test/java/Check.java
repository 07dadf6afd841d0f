/** What the tests share: each comparison that fails is printed, and finish ends with code 1 then. */
final class Check {
    private static int compared = 0;
    private static int wrong = 0;

    /** A call that may throw. */
    interface Call {
        Object answer();
    }

    private Check() {
    }

    static void due(String call, long got, long want) {
        compared++;
        if (got != want) {
            wrong++;
            System.out.println(call + " answered " + got + ", due is " + want);
        }
    }

    static void dueTrue(String what, boolean holds) {
        compared++;
        if (!holds) {
            wrong++;
            System.out.println("does not hold: " + what);
        }
    }

    /** The bits are compared, so that 0.0 and -0.0 are not the same. */
    static void dueShare(String call, double got, double want) {
        due(call + " (bits)", Double.doubleToLongBits(got), Double.doubleToLongBits(want));
    }

    /** The call throws just this exception, and changes nothing that can be seen or undone. */
    static void throwsAndChangesNothing(String call, BoardMetronomes x, Class<?> want, Call made) {
        long before = x.digest();
        Object got = outcome(made);
        dueTrue(call + " throws " + want.getSimpleName() + ", it gave " + got, want.equals(got));
        due("digest behind " + call, x.digest(), before);
    }

    /** The answer of a call as a text, or the class of what it throws. */
    static Object outcome(Call made) {
        try {
            return String.valueOf(made.answer());
        } catch (RuntimeException e) {
            return e.getClass();
        }
    }

    static void type(BoardMetronomes x, String text) {
        for (int i = 0; i < text.length(); i++) {
            x.append(text.charAt(i));
        }
    }

    static void finish(String test) {
        System.out.println(test + ": " + compared + " comparisons, " + wrong + " wrong");
        if (wrong != 0) {
            System.exit(1);
        }
    }
}
