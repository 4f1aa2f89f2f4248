/** Promise 10: parent. In what order a stitch takes its columns is in TermsStitchesTest. */
public final class Promise10ParentTest {
    private static final int[] FAR = {-2, 5, 8, Integer.MIN_VALUE, Integer.MAX_VALUE};

    public static void main(String[] args) {
        Check.sentence("Parent j (from 0) of a loop", Promise10ParentTest::fromNoneToFour);
        Check.sentence("the deepest first", Promise10ParentTest::deepestFirst);
        Check.sentence("NONE when it has no such parent", Promise10ParentTest::noSuchParent);
        Check.sentence("IndexOutOfBoundsException: there is no such loop", Promise10ParentTest::noSuchLoop);
        Check.finish();
    }

    private static Piece several() {
        Piece piece = Piece.cast(4).rows("tkkk", "tmmm", "tmmm");
        piece.dueStack(0, 0, 7, 8, 9);
        return piece.rows("kkro", "cx");
    }

    private static void fromNoneToFour() {
        Piece piece = several();
        piece.dueParents(3);
        piece.dueParents(4, 3);
        piece.dueParents(7);
        piece.dueParents(10, 0, 7, 8, 9);
        piece.dueParents(11, 6);
        piece.dueParents(12, 5, 4);
        piece.dueParents(13);
        piece.dueParents(14, 10, 12, 11);
    }

    private static void deepestFirst() {
        Piece piece = Piece.cast(2).rows("tt", "tt");
        piece.dueStack(0, 0, 3, 4);
        piece.dueStack(1, 1, 2, 5);
        piece.rows("pk");
        piece.dueParents(6, 1, 2, 5);
        piece.dueParents(7, 0, 3, 4);
    }

    private static void noSuchParent() {
        Piece piece = several();
        for (int loop : new int[] {0, 7, 10, 12, 14}) {
            for (int j : FAR) {
                Check.due("parent(" + loop + ", " + j + ")", piece.parent(loop, j), -1);
            }
        }
    }

    private static void noSuchLoop() {
        Piece piece = Piece.cast(2).text("kk");
        piece.dueParents(0);
        piece.dueParents(1);
        refusedLoops(piece, -1, 2, 3, 299, 300, Integer.MIN_VALUE, Integer.MAX_VALUE);
        piece.rows("kk");
        piece.dueParents(3, 0);
        refusedLoops(piece, -1, 4);
        piece.ravel();
        refusedLoops(piece, 2, 3);
        Piece full = Piece.cast(16);
        for (int row = 1; row <= 17; row++) {
            full.rows(Piece.times(16, "k"));
        }
        full.rows("mmmm" + Piece.times(12, "k"));
        // Row 17 went to the left, so that its loop of column 15 came first.
        full.dueParents(299, 272);
        refusedLoops(full, 300, 301);
    }

    private static void refusedLoops(Piece piece, int... loops) {
        for (int loop : loops) {
            for (int j : new int[] {-1, 0}) {
                String call = "parent(" + loop + ", " + j + ")";
                piece.refuses(call, IndexOutOfBoundsException.class, x -> x.parent(loop, j));
            }
        }
    }
}
