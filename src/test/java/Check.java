/** Counts answers that are not the due ones; a test ends by finish(). */
final class Check {
    static final String INDEX = "IndexOutOfBoundsException";
    static final String ARGUMENT = "IllegalArgumentException";
    static final String STATE = "IllegalStateException";

    private static String sentence = "";
    private static int wrong = 0;
    private static int checked = 0;

    private Check() {
    }

    interface Call {
        void run();
    }

    /** What follows looks at this sentence of a promise of the document. */
    static void says(int promise, String quote) {
        sentence = "promise " + promise + ": \"" + quote + "\"";
    }

    /** What follows looks at this sentence of the document's terms. */
    static void says(String terms, String quote) {
        sentence = terms + ": \"" + quote + "\"";
    }

    static void due(String what, long want, long got) {
        checked++;
        if (got != want) {
            report(what + " answered " + got + ", due is " + want);
        }
    }

    static void due(String what, double want, double got) {
        checked++;
        if (Double.compare(got, want) != 0) {
            report(what + " answered " + got + ", due is " + want);
        }
    }

    static void due(String what, String want, String got) {
        checked++;
        if (!want.equals(got)) {
            report(what + " answered " + got + ", due is " + want);
        }
    }

    /** The call must throw an exception of just this class. */
    static void throwing(String what, String name, Call call) {
        due(what + " throws", name, thrownBy(call));
    }

    /** The call must throw, and leave the digest of the bench as it is. */
    static void refused(ClickBench bench, String what, String name, Call call) {
        long before = bench.digest();
        throwing(what, name, call);
        due(what + " changes nothing: digest", before, bench.digest());
    }

    static String thrownBy(Call call) {
        try {
            call.run();
            return "nothing";
        } catch (RuntimeException e) {
            return e.getClass().getSimpleName();
        }
    }

    static void type(ClickBench bench, String text) {
        for (int i = 0; i < text.length(); i++) {
            bench.type(text.charAt(i));
        }
    }

    /** Empties the command text, types another one and runs it. */
    static int run(ClickBench bench, String text) {
        bench.clearCommands();
        type(bench, text);
        return bench.runCommands();
    }

    static void finish() {
        System.out.println(checked + " answers looked at, " + wrong + " wrong");
        if (wrong > 0) {
            System.exit(1);
        }
    }

    private static void report(String line) {
        wrong++;
        if (wrong <= 50) {
            System.out.println(line);
            if (!sentence.isEmpty()) {
                System.out.println("    the document says, " + sentence);
            }
        }
    }
}
