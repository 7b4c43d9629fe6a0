/** Counts answers that are due and those that are not, and tells the latter. */
final class Check {
    static final String INDEX = "throws.IndexOutOfBoundsException";
    static final String ARGUMENT = "throws.IllegalArgumentException";
    static final String STATE = "throws.IllegalStateException";

    private static int passed = 0;
    private static int failed = 0;
    private static String sentence = "";
    private static int checkedBefore = 0;

    interface Call {
        Object answer();
    }

    interface Deed {
        void run();
    }

    private Check() {
    }

    /** The document's words that the checks behind this are about; words without a check are a fault. */
    static void sentence(String words) {
        endSentence();
        sentence = words;
        checkedBefore = passed + failed;
    }

    private static void endSentence() {
        if (!sentence.isEmpty() && passed + failed == checkedBefore) {
            failed++;
            System.out.println("nothing was checked of: " + sentence);
        }
        sentence = "";
    }

    /** What a call answers, as a text: a boolean counts 1 or 0, an exception is told by its name. */
    static String outcome(Call call) {
        try {
            Object answer = call.answer();
            if (answer instanceof Boolean) {
                return (Boolean) answer ? "1" : "0";
            }
            return String.valueOf(answer);
        } catch (RuntimeException e) {
            return "throws." + e.getClass().getSimpleName();
        }
    }

    static String outcomeOfDeed(Deed deed) {
        return outcome(() -> {
            deed.run();
            return "done";
        });
    }

    static void due(String name, Object want, Call call) {
        count(name, String.valueOf(want), outcome(call));
    }

    static void done(String name, Deed deed) {
        count(name, "done", outcomeOfDeed(deed));
    }

    static void refused(String name, String want, Deed deed) {
        count(name, want, outcomeOfDeed(deed));
    }

    static void count(String name, String want, String got) {
        if (want.equals(got)) {
            passed++;
        } else {
            failed++;
            System.out.println(name + " answered " + got + ", due is " + want);
            if (!sentence.isEmpty()) {
                System.out.println("    of: " + sentence);
            }
        }
    }

    static void end(String suite) {
        endSentence();
        System.out.println(suite + ": " + passed + " passed, " + failed + " failed");
        if (failed != 0 || passed == 0) {
            System.exit(1);
        }
    }
}
