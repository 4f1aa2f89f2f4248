import java.util.List;

/** Compares answers with those that are due, tells each wrong one with its sentence, and ends with 1 if one was. */
final class Check {
    private static int wrong = 0;
    private static String sentence = "";

    private Check() {
    }

    interface Call {
        void run();
    }

    /** A sentence of the document, and the test that fails when it does not hold. */
    static void sentence(String words, Call test) {
        sentence = words;
        try {
            test.run();
        } catch (RuntimeException e) {
            report("a call threw " + e);
        }
        sentence = "";
    }

    static void due(String what, long got, long want) {
        if (got != want) {
            report(what + " answered " + got + ", due is " + want);
        }
    }

    static void dueThrow(String what, Class<? extends RuntimeException> want, Call call) {
        Class<?> got = null;
        try {
            call.run();
        } catch (RuntimeException e) {
            got = e.getClass();
        }
        if (got != want) {
            report(what + " threw " + got + ", due is " + want);
        }
    }

    /** Two views must be alike; the first line in which they differ is told. */
    static void same(String what, List<String> got, List<String> want) {
        for (int i = 0; i < Math.min(got.size(), want.size()); i++) {
            if (!got.get(i).equals(want.get(i))) {
                report(what + ": " + got.get(i) + ", due is " + want.get(i));
                return;
            }
        }
        due(what + ": answers", got.size(), want.size());
    }

    static void finish() {
        System.out.println(wrong == 0 ? "all answers are as due" : wrong + " answers are not as due");
        if (wrong != 0) {
            System.exit(1);
        }
    }

    /** The eight bytes, the lowest first, of a text of up to eight characters. */
    static long pack(String characters) {
        long packed = 0;
        for (int i = 0; i < characters.length(); i++) {
            packed |= (long) (characters.charAt(i) & 255) << (8 * i);
        }
        return packed;
    }

    private static void report(String fault) {
        wrong++;
        System.out.println(sentence.isEmpty() ? fault : "\"" + sentence + "\": " + fault);
    }
}
