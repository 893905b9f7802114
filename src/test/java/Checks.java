/** Counts the answers that are not the ones that are due. */
final class Checks {
    interface Call {
        void run();
    }

    private static int wrong = 0;
    private static int made = 0;
    private static String sentence = "";

    private Checks() {
    }

    /** The document's words that the checks from here on are about. */
    static void sentence(String words) {
        sentence = words;
    }

    static void due(String call, long got, long want) {
        made++;
        if (got != want) {
            tell(call + " answered " + got + ", due is " + want);
        }
    }

    static void due(String call, String got, String want) {
        made++;
        if (!got.equals(want)) {
            tell(call + " answered " + got + ", due is " + want);
        }
    }

    /** The exception's very class is due, not one below it. */
    static void refused(String call, Class<? extends RuntimeException> want, Call body) {
        due(call, outcome(body), "throws." + want.getSimpleName());
    }

    static void illegal(String call, Call body) {
        refused(call, IllegalArgumentException.class, body);
    }

    static void untimely(String call, Call body) {
        refused(call, IllegalStateException.class, body);
    }

    static void misplaced(String call, Call body) {
        refused(call, UnsupportedOperationException.class, body);
    }

    static void outside(String call, Call body) {
        refused(call, IndexOutOfBoundsException.class, body);
    }

    static void end() {
        System.out.println(wrong == 0 ? made + " answers are as due" : wrong + " of " + made + " answers are not as due");
        if (wrong != 0) {
            System.exit(1);
        }
    }

    private static String outcome(Call body) {
        try {
            body.run();
            return "nothing thrown";
        } catch (RuntimeException e) {
            return "throws." + e.getClass().getSimpleName();
        }
    }

    private static void tell(String text) {
        wrong++;
        if (wrong <= 40) {
            System.out.println(sentence.isEmpty() ? text : text + "  [" + sentence + "]");
        }
    }
}
