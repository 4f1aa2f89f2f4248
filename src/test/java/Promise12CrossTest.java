/** Promise 12: cross. */
public final class Promise12CrossTest {
    public static void main(String[] args) {
        Check.sentence("1024 * the one that came from the left + 2 * the one that came from the right + 1 if the first"
            + " is in front, else 0", Promise12CrossTest::frontAndBehind);
        Check.sentence("by the columns of the first ones .. and for each so by those of the second ones",
            Promise12CrossTest::byColumns);
        Check.sentence("their stacks from the deepest on", Promise12CrossTest::byStacks);
        Check.sentence("Pair j (from 0) of loops that crossed in a row", Promise12CrossTest::ofEachRow);
        Check.sentence("Pair j: as many as there can be", Promise12CrossTest::most);
        Check.sentence("NONE when there is none such", Promise12CrossTest::noSuchPair);
        Check.sentence("IndexOutOfBoundsException: row is not 1 .. the number of rows", Promise12CrossTest::noSuchRow);
        Check.finish();
    }

    private static int pair(int left, int right, int front) {
        return 1024 * left + 2 * right + front;
    }

    private static void frontAndBehind() {
        Piece.cast(2).rows("<11").dueCrossed(1, 3);
        Piece.cast(2).rows(">11").dueCrossed(1, 2);
        Piece piece = Piece.cast(3).rows("kkk");
        piece.rows("k<11");
        piece.dueCrossed(2, 4 * 1024 + 2 * 3 + 1);
        piece.rows("k>11");
        piece.dueCrossed(3, 7 * 1024 + 2 * 8);
    }

    private static void byColumns() {
        Piece piece = Piece.cast(6).rows("<21>12");
        piece.dueCrossed(1, pair(0, 2, 1), pair(1, 2, 1), pair(3, 4, 0), pair(3, 5, 0));
        // The columns hold 11 10 9 8 7 6 now: the order is not that of the loops' numbers.
        piece.rows(">22<11");
        piece.dueCrossed(2, pair(11, 9, 0), pair(11, 8, 0), pair(10, 9, 0), pair(10, 8, 0), pair(7, 6, 1));
    }

    private static void byStacks() {
        Piece piece = Piece.cast(6).rows("kkkkkk", "tkktkk");
        // The stacks are 11 12, 13, 14, 8 15, 16, 17.
        piece.rows(">11<22");
        piece.dueCrossed(3, pair(11, 13, 0), pair(12, 13, 0), pair(14, 16, 1), pair(14, 17, 1),
            pair(8, 16, 1), pair(8, 17, 1), pair(15, 16, 1), pair(15, 17, 1));
        Piece both = Piece.cast(2).rows("tt", "tt", "<11");
        both.dueCrossed(3, pair(0, 1, 1), pair(0, 2, 1), pair(0, 5, 1), pair(3, 1, 1), pair(3, 2, 1), pair(3, 5, 1),
            pair(4, 1, 1), pair(4, 2, 1), pair(4, 5, 1));
    }

    private static void ofEachRow() {
        Piece piece = Piece.cast(3).rows("k<11", "kkk", ">11k");
        piece.dueCrossed(1, pair(1, 2, 1));
        piece.dueCrossed(2);
        piece.dueCrossed(3, pair(6, 7, 0));
        piece.ravel();
        piece.dueCrossed(1, pair(1, 2, 1));
        piece.rows("<12");
        piece.dueCrossed(3, pair(6, 7, 1), pair(6, 8, 1));
        piece.dueCrossed(1, pair(1, 2, 1));
    }

    private static void most() {
        String tucks = Piece.times(16, "t");
        Piece stacks = Piece.cast(16).rows(tucks, tucks, tucks, "<44>44");
        Check.due("the first", stacks.cross(4, 0), pair(0, 4, 1));
        Check.due("the last of <", stacks.cross(4, 255), pair(60, 56, 1));
        Check.due("the first of >", stacks.cross(4, 256), pair(8, 12, 0));
        Check.due("the last", stacks.cross(4, 511), pair(52, 48, 0));
        Check.due("none behind", stacks.cross(4, 512), -1);
        Piece wide = Piece.cast(16);
        for (int row = 1; row <= 17; row++) {
            wide.rows("<11>11<11>11<11>11<11>11");
        }
        for (int row = 1; row <= 17; row++) {
            Check.due("eight in row " + row, wide.program(row, 4), 8);
            // Even rows go from the left to the right: then the loops' numbers rise with the columns.
            int first = 16 * (row - 1);
            int last = row % 2 == 1 ? pair(first + 14, first + 15, 0) : pair(first + 1, first, 0);
            Check.due("the last of row " + row, wide.cross(row, 7), last);
            Check.due("none behind", wide.cross(row, 8), -1);
        }
    }

    private static void noSuchPair() {
        Piece piece = Piece.cast(4).rows("<22", "kkkk");
        Check.due("the last", piece.cross(1, 3), pair(1, 3, 1));
        for (int j : new int[] {-1, 4, 5, -4, 512, Integer.MIN_VALUE, Integer.MAX_VALUE}) {
            Check.due("cross(1, " + j + ")", piece.cross(1, j), -1);
        }
        for (int j : new int[] {-1, 0, 1, Integer.MIN_VALUE, Integer.MAX_VALUE}) {
            Check.due("cross(2, " + j + ")", piece.cross(2, j), -1);
        }
        Piece moved = Piece.cast(4).rows("xoklo", "okxr");
        Check.due("moving alone crosses nothing", moved.cross(1, 0), -1);
        Check.due("moving alone crosses nothing", moved.cross(2, 0), -1);
    }

    private static void noSuchRow() {
        Piece piece = Piece.cast(2).text("<11");
        refusedRows(piece, 0, 1, -1);
        piece.rows("<11");
        refusedRows(piece, 0, 2, -1, 21, Integer.MIN_VALUE, Integer.MAX_VALUE);
        for (int row = 2; row <= 20; row++) {
            piece.rows("<11");
        }
        Check.due("row 20", piece.cross(20, 0), pair(39, 38, 1));
        refusedRows(piece, 0, 21);
        piece.ravel();
        refusedRows(piece, 20);
        piece.castOn(2);
        refusedRows(piece, 1, 19);
    }

    private static void refusedRows(Piece piece, int... rows) {
        for (int row : rows) {
            for (int j : new int[] {-1, 0}) {
                String call = "cross(" + row + ", " + j + ")";
                piece.refuses(call, IndexOutOfBoundsException.class, x -> x.cross(row, j));
            }
        }
    }
}
