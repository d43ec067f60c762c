/** Counts the answers that are not as due; a test's main method ends with end(). */
final class Check {

    /** A call of the face. */
    interface Call {
        int answer();
    }

    private static int wrong = 0;
    private static int looked = 0;
    private static int sentences = 0;

    private Check() {
    }

    static void due(String call, long got, long want) {
        looked++;
        if (got != want) {
            tell(call + " answered " + got + ", due is " + want);
        }
    }

    static void dueWords(String call, String got, String want) {
        looked++;
        if (!got.equals(want)) {
            tell(call + " answered " + got + ", due is " + want);
        }
    }

    static void dueThrow(String call, Class<? extends RuntimeException> want, Call made) {
        looked++;
        String got;
        try {
            got = "answered " + made.answer();
        } catch (RuntimeException e) {
            if (e.getClass() == want) {
                return;
            }
            got = "threw " + e;
        }
        tell(call + " " + got + ", due is " + want.getSimpleName());
    }

    static void noSuch(String call, Call made) {
        dueThrow(call, IndexOutOfBoundsException.class, made);
    }

    static void refused(String call, Call made) {
        dueThrow(call, IllegalArgumentException.class, made);
    }

    static void notNow(String call, Call made) {
        dueThrow(call, IllegalStateException.class, made);
    }

    /** Runs the test of one sentence of the document; behind what it finds wrong the sentence is told. */
    static void sentence(String words, Runnable test) {
        sentences++;
        int wrongBefore = wrong;
        try {
            test.run();
        } catch (RuntimeException e) {
            tell("a call that should answer threw " + e);
        }
        if (wrong != wrongBefore) {
            System.out.println("-- does not hold: " + words);
        }
    }

    static void tell(String fault) {
        wrong++;
        if (wrong <= 40) {
            System.out.println(fault);
        }
    }

    static void end() {
        String ofSentences = sentences == 0 ? "" : " for " + sentences + " sentences";
        System.out.println(looked + " answers looked at" + ofSentences + ", " + wrong + " not as due");
        if (wrong != 0) {
            System.exit(1);
        }
    }

    /** Whether all that can be asked of its state is answered as it was when this was read. */
    static void dueState(String what, LongCaterpillars x, String want) {
        looked++;
        String got = Reading.state(x);
        if (!got.equals(want)) {
            tell(what + ": the state is " + got + ", due is " + want);
        }
    }

    /** A new object with this text. */
    static LongCaterpillars withText(String text) {
        LongCaterpillars x = new LongCaterpillars();
        write(x, text);
        return x;
    }

    static void write(LongCaterpillars x, String text) {
        for (int k = 0; k < text.length(); k++) {
            x.append(text.charAt(k));
        }
    }

    /** A new object with the house that this text tells. */
    static LongCaterpillars house(String text) {
        LongCaterpillars x = withText(text);
        x.load();
        return x;
    }
}
