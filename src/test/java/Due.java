/** Counts the answers that are not the ones that are due. */
final class Due {
    static final Class<? extends RuntimeException> INDEX = IndexOutOfBoundsException.class;
    static final Class<? extends RuntimeException> TURN = IllegalStateException.class;
    static final Class<? extends RuntimeException> RANGE = IllegalArgumentException.class;
    static final Class<? extends RuntimeException> MEANING = UnsupportedOperationException.class;

    private static int wrong = 0;
    private static int asked = 0;
    private static String sentence = "";

    private Due() {
    }

    /** The document's words that the answers from here on are due by; they are printed with a wrong one. */
    static void sentence(String words) {
        sentence = " (" + words + ")";
    }

    static void is(String what, long want, long got) {
        asked++;
        if (got != want) {
            tell(what + " answered " + got + ", due is " + want);
        }
    }

    static void isTrue(String what, boolean got) {
        asked++;
        if (!got) {
            tell(what);
        }
    }

    /** The class must be the very one: what the machine throws is of a class below it. */
    static void refused(String what, Class<? extends RuntimeException> want, Runnable call) {
        asked++;
        try {
            call.run();
            tell(what + " threw nothing, due is " + want.getSimpleName());
        } catch (RuntimeException e) {
            if (e.getClass() != want) {
                tell(what + " threw " + e + ", due is " + want.getSimpleName());
            }
        }
    }

    static void end() {
        if (asked == 0) {
            tell("nothing was asked");
        }
        if (wrong != 0) {
            System.out.println(wrong + " of " + asked + " answers are not as due");
            System.exit(1);
        }
    }

    private static void tell(String text) {
        wrong++;
        StackTraceElement[] trace = new Throwable().getStackTrace();
        String where = "";
        for (StackTraceElement e : trace) {
            if (!e.getClassName().equals("Due")) {
                where = e.getFileName() + ":" + e.getLineNumber();
                break;
            }
        }
        System.out.println(where + ": " + text + sentence);
    }
}
