/** Promise 13: live. */
public final class Promise13LiveTest {
    private static final int[] FAR = {-2, 16, 17, 300, Integer.MIN_VALUE, Integer.MAX_VALUE};

    public static void main(String[] args) {
        Check.sentence("The loop in the stack of a column, the deepest one having depth 0", Promise13LiveTest::stacks);
        Check.sentence("NONE when there is none such: the depth", Promise13LiveTest::noSuchDepth);
        Check.sentence("NONE when there is none such: the column", Promise13LiveTest::noSuchColumn);
        Check.finish();
    }

    private static void stacks() {
        Piece piece = Piece.cast(6).rows("kptmxp");
        piece.dueStack(0, 9);
        piece.dueStack(1, 8);
        piece.dueStack(2, 2, 7);
        piece.dueStack(3, 3);
        piece.dueStack(4, 6);
        piece.dueStack(5);
        piece.rows("otmtmt");
        piece.dueStack(0, 10);
        piece.dueStack(1, 9, 11);
        piece.dueStack(2, 8);
        piece.dueStack(3, 2, 7, 12);
        piece.dueStack(4, 3);
        piece.dueStack(5, 6, 13);
        piece.rows("mmmtmm");
        piece.dueStack(3, 2, 7, 12, 14);
        piece.rows("xk<21k");
        piece.dueStack(0, 15);
        piece.dueStack(3, 18);
        piece.dueStack(4, 19);
    }

    private static void noSuchDepth() {
        Piece piece = Piece.cast(2).rows("tm", "tm", "tm");
        piece.dueStack(0, 0, 2, 3, 4);
        piece.dueStack(1, 1);
        for (int depth : FAR) {
            Check.due("live(0, " + depth + ")", piece.live(0, depth), -1);
            Check.due("live(1, " + depth + ")", piece.live(1, depth), -1);
        }
        piece.rows("km");
        piece.dueStack(0, 5);
    }

    private static void noSuchColumn() {
        for (int columns = 1; columns <= 16; columns++) {
            Piece piece = Piece.cast(columns);
            Check.due("the column before the first", piece.live(-1, 0), -1);
            Check.due("the first", piece.live(0, 0), 0);
            Check.due("the last", piece.live(columns - 1, 0), columns - 1);
            Check.due("the one behind it", piece.live(columns, 0), -1);
        }
        Piece piece = Piece.cast(4).rows("kkkk");
        for (int column : FAR) {
            Check.due("live(" + column + ", 0)", piece.live(column, 0), -1);
        }
        piece.rows("xxkk");
        piece.dueStack(1, 9);
        piece.dueStack(2);
        piece.dueStack(3);
        Piece fresh = new Piece();
        fresh.dueStack(0);
    }
}
