/** Promises 10 (parent) and 11 (loop). */
public final class Promise10And11LoopsTest {
    public static void main(String[] args) {
        parents();
        stacks();
        loops();
        wrongArguments();
        Check.finish();
    }

    private static void parents() {
        ChartKnitter x = Check.cast(8);
        Check.rows(x, "rlcpo");
        parents(x, 8);
        parents(x, 9, 7);
        parents(x, 10, 4, 6, 5);
        parents(x, 11, 3, 2);
        parents(x, 12, 0, 1);
        Check.rows(x, "<12>11");
        // From the left to the right now: the columns 1, 2, 0, 4, 3.
        parents(x, 13, 11);
        parents(x, 14, 10);
        parents(x, 15, 12);
        parents(x, 16, 8);
        parents(x, 17, 9);
    }

    /** Stacks with several loops: each one from the deepest on, in the order of the stitch. */
    private static void stacks() {
        ChartKnitter x = Check.cast(7);
        Check.rows(x, "tttmmmt");
        // 10 on 0, 9 on 1, 8 on 2, 7 on 6.
        Check.rows(x, "lckm");
        parents(x, 11, 1, 9, 0, 10);
        parents(x, 12, 2, 8, 4, 3);
        parents(x, 13, 5);
        Check.due("m gives the stack as it is", x.live(3, 0), 6);
        Check.due("its upper loop", x.live(3, 1), 7);
        Check.due("it is now in column 3", x.loop(7, 4), 3);
        Check.due("it was made in column 6", x.loop(7, 1), 6);
        Check.rows(x, "kkr");
        parents(x, 14, 13, 6, 7);
    }

    private static void loops() {
        ChartKnitter x = Check.cast(5);
        Check.due("knit", Check.knit(x, "pktxmo", 2), 0);
        facts(x, 5, 1, 4, 0, 2, 4);
        facts(x, 6, 1, 2, 0, 2, 2);
        facts(x, 7, 1, 1, 0, 2, 1);
        facts(x, 8, 1, 0, 1, 2, 0);
        int[] where = {-1, -1, 2, -2, 3};
        for (int i = 0; i < where.length; i++) {
            Check.due("where loop " + i + " is", x.loop(i, 4), where[i]);
        }
        Check.due("knit", Check.knit(x, "tmpmk", 1), 0);
        // t on a column that lies on the back bed makes its loop there.
        facts(x, 9, 2, 0, 1, 1, 0);
        facts(x, 10, 2, 2, 1, 1, 2);
        facts(x, 11, 2, 4, 0, 1, 4);
        Check.due("knit", Check.knit(x, "xoxmkx", 1), 0);
        Check.due("both were dropped", x.loop(8, 4) + 10 * x.loop(9, 4), -22);
        Check.due("still dropped", x.loop(3, 4), -2);
        Check.due("moved on", x.loop(10, 4), 1);
    }

    private static void wrongArguments() {
        ChartKnitter x = Check.cast(2);
        Check.rows(x, "kk");
        for (int loop : new int[] {-1, 4, 300, Integer.MIN_VALUE, Integer.MAX_VALUE}) {
            Check.dueThrow("parent(" + loop + ", 0)", IndexOutOfBoundsException.class, () -> x.parent(loop, 0));
            Check.dueThrow("loop(" + loop + ", 0)", IndexOutOfBoundsException.class, () -> x.loop(loop, 0));
            Check.dueThrow("loop(" + loop + ", 9)", IndexOutOfBoundsException.class, () -> x.loop(loop, 9));
        }
        for (int j : new int[] {-1, 1, 3, 4, Integer.MIN_VALUE, Integer.MAX_VALUE}) {
            Check.due("parent(3, " + j + ")", x.parent(3, j), -1);
            Check.due("parent(0, " + j + ")", x.parent(0, j), -1);
        }
        for (int what : new int[] {-1, 5, Integer.MIN_VALUE, Integer.MAX_VALUE}) {
            Check.dueThrow("loop(0, " + what + ")", IllegalArgumentException.class, () -> x.loop(0, what));
        }
        x.ravel();
        Check.dueThrow("a ravelled loop", IndexOutOfBoundsException.class, () -> x.loop(2, 0));
    }

    private static void facts(ChartKnitter x, int loop, int row, int column, int bed, int carrier, int where) {
        int[] want = {row, column, bed, carrier, where};
        for (int what = 0; what < want.length; what++) {
            Check.due("loop(" + loop + ", " + what + ")", x.loop(loop, what), want[what]);
        }
    }

    private static void parents(ChartKnitter x, int loop, int... parents) {
        for (int j = 0; j < 5; j++) {
            Check.due("parent(" + loop + ", " + j + ")", x.parent(loop, j), j < parents.length ? parents[j] : -1);
        }
    }
}
