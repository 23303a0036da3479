/** What the tests of the project share: they print each answer that is not due, and end with 1 if there was one. */
final class Check {

    interface Call {
        void make();
    }

    private static int wrong = 0;

    private Check() {
    }

    static void due(String call, long got, long want) {
        if (got != want) {
            wrong++;
            System.out.println(call + " answered " + got + ", due is " + want);
        }
    }

    static void dueText(String call, String got, String want) {
        if (!got.equals(want)) {
            wrong++;
            System.out.println(call + " answered " + got + ", due is " + want);
        }
    }

    static void dueDouble(String call, double got, double want) {
        if (got != want) {
            wrong++;
            System.out.println(call + " answered " + got + ", due is " + want);
        }
    }

    /** The call has to throw just this, and to leave the object as it was. */
    static void dueThrow(String call, PumpRoster x, Class<? extends RuntimeException> want, Call made) {
        long before = x.digest();
        String got = "nothing";
        try {
            made.make();
        } catch (RuntimeException e) {
            got = e.getClass().getSimpleName();
        }
        if (!got.equals(want.getSimpleName())) {
            wrong++;
            System.out.println(call + " throws " + got + ", due is " + want.getSimpleName());
        }
        due("digest() after " + call + " threw", x.digest(), before);
    }

    static void finish(String test) {
        System.out.println(test + ": " + (wrong == 0 ? "all answers are as due" : wrong + " answers are not as due"));
        if (wrong != 0) {
            System.exit(1);
        }
    }
}
