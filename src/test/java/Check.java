/** What the tests of the project share: they print each answer that is not due, and end with 1 if there was one. */
final class Check {

    interface Call {
        void make();
    }

    private static int wrong = 0;
    private static int sentences = 0;
    private static String sentence = "";

    private Check() {
    }

    /** What follows tests this sentence of the document, which stands ahead of each answer that is not due. */
    static void sentence(String words) {
        sentences++;
        sentence = "\"" + words + "\": ";
    }

    static void due(String call, long got, long want) {
        dueText(call, "" + got, "" + want);
    }

    static void dueDouble(String call, double got, double want) {
        if (got != want) {
            tell(call + " answered " + got + ", due is " + want);
        }
    }

    static void dueText(String call, String got, String want) {
        if (!got.equals(want)) {
            tell(call + " answered " + got + ", due is " + want);
        }
    }

    /** The call has to throw just this, and to leave the object as it was. */
    static void dueThrow(String call, PumpRoster x, Class<? extends RuntimeException> want, Call made) {
        long before = x.digest();
        String got = "nothing";
        try {
            made.make();
        } catch (RuntimeException e) {
            got = e.getClass().getSimpleName();
        }
        if (!got.equals(want.getSimpleName())) {
            tell(call + " throws " + got + ", due is " + want.getSimpleName());
        }
        due("digest() after " + call + " threw", x.digest(), before);
    }

    private static void tell(String what) {
        wrong++;
        System.out.println(sentence + what);
    }

    static void finish(String test) {
        String told = sentences == 0 ? "" : " (" + sentences + " sentences)";
        System.out.println(test + told + ": "
                + (wrong == 0 ? "all answers are as due" : wrong + " answers are not as due"));
        if (wrong != 0) {
            System.exit(1);
        }
    }
}
