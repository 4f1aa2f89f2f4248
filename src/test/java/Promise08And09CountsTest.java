/** Promises 8 (number) and 9 (program). */
public final class Promise08And09CountsTest {
    public static void main(String[] args) {
        numbers();
        wrongArguments();
        program(4, "kkkk", 0, 0, 0, 4, 0);
        program(4, "pppp", 4, 0, 0, 4, 0);
        program(4, "mtmt", 0, 0, 0, 2, 0);
        // Columns behind the last that is needed, or given, move nothing.
        program(4, "kpkx", 1, 0, 1, 3, 0);
        program(4, "kpkko", 1, 0, 0, 5, 0);
        // An x on the left moves the others: 3 to the back, 3 to the front, one of them to the back again.
        program(4, "xkpm", 7, 2, 1, 2, 0);
        program(4, "okkkk", 8, 2, 0, 5, 0);
        // An o where an x was leaves the others where they are.
        program(4, "koxkp", 1, 0, 1, 4, 0);
        // rack -1, then 0 for the late left column, or 0 first for r, then -1, then 0.
        program(2, "l", 4, 2, 0, 1, 0);
        program(2, "r", 4, 2, 0, 1, 0);
        // 0, -2, -1, 0.
        program(3, "c", 6, 3, 0, 1, 0);
        // 1, -1, 0 and -1, 1, 0.
        program(2, "<11", 4, 3, 0, 2, 1);
        program(2, ">11", 4, 3, 0, 2, 1);
        program(8, "<44", 16, 3, 0, 8, 16);
        // Early ones 1, -1, four times; late ones -1, 1, four times; 0.
        program(16, "<11>11<11>11<11>11<11>11", 32, 16, 0, 16, 8);
        program(8, "<22kk>11", 16, 6, 0, 8, 5);
        backBed();
        Check.finish();
    }

    private static void numbers() {
        ChartKnitter x = Check.cast(5);
        Check.rows(x, "xktmk");
        int[] want = {1, 4, 8, 1};
        for (int what = 0; what < 4; what++) {
            Check.due("number(" + what + ")", x.number(what), want[what]);
        }
        Check.rows(x, "kxkk");
        Check.due("both loops of the stack are dropped", x.number(3), 3);
        for (int what : new int[] {-1, 4, Integer.MIN_VALUE, Integer.MAX_VALUE}) {
            Check.due("number(" + what + ")", x.number(what), -1);
        }
    }

    private static void wrongArguments() {
        ChartKnitter x = Check.cast(2);
        Check.rows(x, "kk");
        for (int row : new int[] {0, 2, -1, 21, Integer.MIN_VALUE, Integer.MAX_VALUE}) {
            Check.dueThrow("program(" + row + ", 0)", IndexOutOfBoundsException.class, () -> x.program(row, 0));
            Check.dueThrow("program(" + row + ", 5)", IndexOutOfBoundsException.class, () -> x.program(row, 5));
        }
        for (int what : new int[] {-1, 5, Integer.MIN_VALUE, Integer.MAX_VALUE}) {
            Check.dueThrow("program(1, " + what + ")", IllegalArgumentException.class, () -> x.program(1, what));
        }
        x.ravel();
        Check.dueThrow("program of a ravelled row", IndexOutOfBoundsException.class, () -> x.program(1, 0));
    }

    /** Columns that lie on the back bed: they need no first transfer, and t and m bring them back there. */
    private static void backBed() {
        ChartKnitter x = Check.cast(4);
        Check.rows(x, "pkpk", "mmtt");
        Check.due("nothing to do", x.program(2, 0), 0);
        Check.rows(x, "kppk");
        Check.due("one each way", x.program(3, 0), 2);
        Check.rows(x, "xmtp");
        Check.due("1 to the back, 3 to the front, 3 to the back", x.program(4, 0), 7);
        Check.due("-1 and 0", x.program(4, 1), 2);
        Check.rows(x, "<11k");
        Check.due("3 to the front", x.program(5, 0), 3);
        Check.due("1, 0, -1, 0", x.program(5, 1), 4);
    }

    private static void program(int columns, String text, int... want) {
        ChartKnitter x = Check.cast(columns);
        Check.rows(x, text);
        for (int what = 0; what < 5; what++) {
            Check.due("program(1, " + what + ") of " + text, x.program(1, what), want[what]);
        }
    }
}
