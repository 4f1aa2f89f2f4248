/** Promise 11: loop. */
public final class Promise11LoopTest {
    public static void main(String[] args) {
        Check.sentence("its row (what = 0), column (1), bed (2), carrier (3)", Promise11LoopTest::facts);
        Check.sentence("where it is now: the column whose stack has it (4)", Promise11LoopTest::inAStack);
        Check.sentence("-1 when it is the parent of another one", Promise11LoopTest::parent);
        Check.sentence("-2 when it was dropped", Promise11LoopTest::dropped);
        Check.sentence("IndexOutOfBoundsException: there is no such loop", Promise11LoopTest::noSuchLoop);
        Check.sentence("IllegalArgumentException: another what", Promise11LoopTest::anotherWhat);
        Check.sentence("the one named first when several would do", Promise11LoopTest::bothWrong);
        Check.finish();
    }

    private static void facts() {
        Piece piece = Piece.cast(5).rowsBy(2, "pktxmo");
        piece.dueLoop(0, 0, 0, 0, 0, -1);
        piece.dueLoop(4, 0, 4, 0, 0, 3);
        piece.dueLoop(5, 1, 4, 0, 2, 4);
        piece.dueLoop(6, 1, 2, 0, 2, 2);
        piece.dueLoop(7, 1, 1, 0, 2, 1);
        piece.dueLoop(8, 1, 0, 1, 2, 0);
        piece.rowsBy(1, "tmpmk");
        piece.dueLoop(9, 2, 0, 1, 1, 0);
        piece.dueLoop(10, 2, 2, 1, 1, 2);
        piece.dueLoop(11, 2, 4, 0, 1, 4);
        Piece last = Piece.cast(1);
        for (int row = 1; row <= 20; row++) {
            last.rows("k");
        }
        last.dueLoop(20, 20, 0, 0, 0, 0);
    }

    /** Its own column and bed stay when its stack moves on. */
    private static void inAStack() {
        Piece piece = Piece.cast(4).rows("mmmt");
        piece.dueLoop(3, 0, 3, 0, 0, 3);
        piece.dueLoop(4, 1, 3, 0, 0, 3);
        piece.rows("xkmm");
        piece.dueLoop(3, 0, 3, 0, 0, 2);
        piece.dueLoop(4, 1, 3, 0, 0, 2);
        piece.rows("ooommm");
        piece.dueLoop(3, 0, 3, 0, 0, 5);
        piece.dueLoop(4, 1, 3, 0, 0, 5);
        piece.rows("xxxxxm");
        piece.dueLoop(3, 0, 3, 0, 0, 0);
        piece.dueLoop(4, 1, 3, 0, 0, 0);
        Piece wide = Piece.cast(16).rows(Piece.times(16, "m"));
        Check.due("in the last column", wide.loop(15, 4), 15);
    }

    private static void parent() {
        Piece piece = Piece.cast(8).rows("kpm<11lt");
        int[] where = {-1, -1, 2, -1, -1, -1, -1, 6};
        for (int loop = 0; loop < where.length; loop++) {
            Check.due("loop(" + loop + ", 4)", piece.loop(loop, 4), where[loop]);
        }
        piece.rows("kkkkkkx");
        Check.due("a parent stays one", piece.loop(0, 4), -1);
        Check.due("a parent's parent too", piece.loop(4, 4), -1);
        Piece stack = Piece.cast(1).rows("t", "t", "t", "k");
        for (int loop = 0; loop < 4; loop++) {
            Check.due("loop(" + loop + ", 4)", stack.loop(loop, 4), -1);
        }
        Check.due("loop(4, 4)", stack.loop(4, 4), 0);
    }

    private static void dropped() {
        Piece piece = Piece.cast(2).rows("tk", "tk", "tk", "xk");
        int[] where = {-2, -1, -1, -2, -2, -1, -1, -2, 0};
        for (int loop = 0; loop < where.length; loop++) {
            Check.due("loop(" + loop + ", 4)", piece.loop(loop, 4), where[loop]);
        }
        piece.dueLoop(3, 1, 0, 0, 0, -2);
        piece.rows("k");
        Check.due("it stays dropped", piece.loop(0, 4), -2);
    }

    private static void noSuchLoop() {
        Piece piece = Piece.cast(2).text("kk");
        Check.due("the last", piece.loop(1, 1), 1);
        refusedLoops(piece, -1, 2, 3, 299, 300, Integer.MIN_VALUE, Integer.MAX_VALUE);
        piece.rows("kk");
        Check.due("the last", piece.loop(3, 1), 0);
        refusedLoops(piece, -1, 4);
        piece.ravel();
        refusedLoops(piece, 2, 3);
        piece.castOn(1);
        refusedLoops(piece, 1);
        Piece full = Piece.cast(16);
        for (int row = 1; row <= 17; row++) {
            full.rows(Piece.times(16, "k"));
        }
        full.rows(Piece.times(12, "k") + "mmmm");
        full.dueLoop(299, 18, 11, 0, 0, 11);
        refusedLoops(full, 300);
    }

    private static void refusedLoops(Piece piece, int... loops) {
        for (int loop : loops) {
            for (int what : new int[] {0, 4}) {
                String call = "loop(" + loop + ", " + what + ")";
                piece.refuses(call, IndexOutOfBoundsException.class, x -> x.loop(loop, what));
            }
        }
    }

    private static void anotherWhat() {
        Piece piece = Piece.cast(2).rows("kp").text("kk");
        for (int what : new int[] {-1, 5, 6, -2, Integer.MIN_VALUE, Integer.MAX_VALUE}) {
            for (int loop : new int[] {0, 3}) {
                String call = "loop(" + loop + ", " + what + ")";
                piece.refuses(call, IllegalArgumentException.class, x -> x.loop(loop, what));
            }
        }
    }

    private static void bothWrong() {
        Piece piece = Piece.cast(2).rows("kp");
        for (int loop : new int[] {-1, 4}) {
            for (int what : new int[] {-1, 5}) {
                String call = "loop(" + loop + ", " + what + ")";
                piece.refuses(call, IndexOutOfBoundsException.class, x -> x.loop(loop, what));
            }
        }
    }
}
