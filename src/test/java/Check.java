/** Counts the answers that are not the ones that are due. */
final class Check {
    interface Call {
        void run();
    }

    private static int wrong = 0;
    private static int asked = 0;

    private Check() {
    }

    static void due(String what, long got, long want) {
        asked++;
        if (got != want) {
            report(what + " answered " + got + ", due is " + want);
        }
    }

    static void due(String what, double got, double want) {
        asked++;
        if (got != want) {
            report(what + " answered " + got + ", due is " + want);
        }
    }

    static void holds(String what, boolean right) {
        asked++;
        if (!right) {
            report(what);
        }
    }

    /** The call throws exactly this exception, and changes nothing of the rows. */
    static void refused(String what, FuseRows rows, Class<? extends RuntimeException> due, Call call) {
        asked++;
        long before = rows.digest();
        RuntimeException thrown = null;
        try {
            call.run();
        } catch (RuntimeException e) {
            thrown = e;
        }
        if (thrown == null) {
            report(what + " throws nothing, due is " + due.getSimpleName());
        } else if (thrown.getClass() != due) {
            report(what + " throws " + thrown + ", due is " + due.getSimpleName());
        }
        if (rows.digest() != before) {
            report(what + " changed something");
        }
    }

    static void noIndex(String what, FuseRows rows, Call call) {
        refused(what, rows, IndexOutOfBoundsException.class, call);
    }

    static void noArgument(String what, FuseRows rows, Call call) {
        refused(what, rows, IllegalArgumentException.class, call);
    }

    static void noState(String what, FuseRows rows, Call call) {
        refused(what, rows, IllegalStateException.class, call);
    }

    /** Appends each character of a text. */
    static void type(FuseRows rows, String text) {
        for (int i = 0; i < text.length(); i++) {
            rows.append(text.charAt(i));
        }
    }

    static void end() {
        System.out.println(asked + " looks, " + wrong + " wrong");
        if (wrong != 0) {
            System.exit(1);
        }
    }

    private static void report(String line) {
        wrong++;
        if (wrong <= 40) {
            System.out.println(line);
        }
    }
}
