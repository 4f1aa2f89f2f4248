/** What the tests share: comparing answers, writing texts, and ending with 1 when an answer was wrong. */
final class Check {
    private static int wrong = 0;

    private Check() {
    }

    interface Call {
        void run();
    }

    static void due(String what, long got, long want) {
        if (got != want) {
            wrong++;
            System.out.println(what + " answered " + got + ", due is " + want);
        }
    }

    static void dueThrow(String what, Class<? extends RuntimeException> want, Call call) {
        Class<?> got = null;
        try {
            call.run();
        } catch (RuntimeException e) {
            got = e.getClass();
        }
        if (got != want) {
            wrong++;
            System.out.println(what + " threw " + got + ", due is " + want);
        }
    }

    static void finish() {
        System.out.println(wrong == 0 ? "all answers are as due" : wrong + " answers are not as due");
        if (wrong != 0) {
            System.exit(1);
        }
    }

    static ChartKnitter cast(int columns) {
        ChartKnitter x = new ChartKnitter();
        x.castOn(columns);
        return x;
    }

    /** The eight bytes, the lowest first, of a text of up to eight characters. */
    static long pack(String characters) {
        long packed = 0;
        for (int i = 0; i < characters.length(); i++) {
            packed |= (long) (characters.charAt(i) & 255) << (8 * i);
        }
        return packed;
    }

    static void write(ChartKnitter x, String text) {
        for (int i = 0; i < text.length(); i += 8) {
            x.write(pack(text.substring(i, Math.min(text.length(), i + 8))));
        }
    }

    /** Wipes, writes and knits. */
    static int knit(ChartKnitter x, String text, int carrier) {
        x.wipe();
        write(x, text);
        return x.knit(carrier);
    }

    /** Knits rows by the carrier 0, each of which must be without a fault. */
    static void rows(ChartKnitter x, String... texts) {
        for (String text : texts) {
            due("knit of " + text, knit(x, text, 0), 0);
        }
    }

    static void fault(ChartKnitter x, String text, int carrier, int fault, int place) {
        due("fault of '" + text + "'", knit(x, text, carrier), fault);
        due("place of the fault of '" + text + "'", x.place(), place);
    }
}
