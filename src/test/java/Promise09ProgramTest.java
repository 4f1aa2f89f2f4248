/** Promise 9: program. How a program comes about is in TermsProgramTest. */
public final class Promise09ProgramTest {
    public static void main(String[] args) {
        Check.sentence("transfers (what = 0), rackings (1), released columns (2), loops made (3), pairs of loops that"
            + " crossed (4)", Promise09ProgramTest::counts);
        Check.sentence("Of a row that was knitted", Promise09ProgramTest::ofEachRow);
        Check.sentence("pairs of loops that crossed (4): from none to 512", Promise09ProgramTest::pairs);
        Check.sentence("loops made (3): from none to 16", Promise09ProgramTest::made);
        Check.sentence("released columns (2): from none to 16", Promise09ProgramTest::released);
        Check.sentence("IndexOutOfBoundsException: row is not 1 .. the number of rows",
            Promise09ProgramTest::noSuchRow);
        Check.sentence("IllegalArgumentException: another what", Promise09ProgramTest::anotherWhat);
        Check.sentence("the one named first when several would do", Promise09ProgramTest::bothWrong);
        Check.finish();
    }

    private static void counts() {
        // 6 to the back bed, 6 to the front bed; the rack goes to 1, -1, -2, -1 and 0.
        Piece.cast(8).rows("<11xkxmkt").dueProgram(1, 12, 5, 2, 5, 1);
    }

    private static void ofEachRow() {
        Piece piece = Piece.cast(4).rows("pppp", "xmmm", ">12", "mmm");
        piece.dueProgram(1, 4, 0, 0, 4, 0);
        piece.dueProgram(2, 6, 2, 1, 0, 0);
        piece.dueProgram(3, 3, 3, 0, 3, 2);
        piece.dueProgram(4, 0, 0, 0, 0, 0);
        piece.text("kk");
        Check.due("knit", piece.knit(0), 2);
        piece.dueProgram(4, 0, 0, 0, 0, 0);
        piece.ravel();
        piece.dueProgram(3, 3, 3, 0, 3, 2);
        piece.dueProgram(1, 4, 0, 0, 4, 0);
    }

    private static void pairs() {
        Piece piece = Piece.cast(16).rows(Piece.times(16, "k"));
        Check.due("none", piece.program(1, 4), 0);
        piece.rows(Piece.times(14, "k") + "<11");
        Check.due("one", piece.program(2, 4), 1);
        String tucks = Piece.times(16, "t");
        piece.rows(tucks, tucks, tucks, ">44<44");
        Check.due("twice 16 by 16", piece.program(6, 4), 512);
    }

    private static void made() {
        Piece piece = Piece.cast(16).rows(Piece.times(16, "m"), Piece.times(16, "p"), Piece.times(15, "m") + "t");
        Check.due("none", piece.program(1, 3), 0);
        Check.due("16", piece.program(2, 3), 16);
        Check.due("one", piece.program(3, 3), 1);
    }

    private static void released() {
        Piece piece = Piece.cast(16);
        piece.rows(Piece.times(16, "k"), Piece.times(15, "k") + "xo", Piece.times(16, "x") + "o");
        Check.due("none", piece.program(1, 2), 0);
        Check.due("one", piece.program(2, 2), 1);
        Check.due("16", piece.program(3, 2), 16);
        Piece stack = Piece.cast(2).rows("tk", "tk", "xk");
        Check.due("columns, not loops", stack.program(3, 2), 1);
    }

    private static void noSuchRow() {
        Piece piece = Piece.cast(2).text("kk");
        refusedRows(piece, 0, 1, 2, -1);
        piece.rows("kk");
        Check.due("the first and last", piece.program(1, 3), 2);
        refusedRows(piece, 0, 2, -1, 21, Integer.MIN_VALUE, Integer.MAX_VALUE);
        piece.rows("kk");
        Check.due("the last", piece.program(2, 3), 2);
        refusedRows(piece, 0, 3);
        piece.ravel();
        refusedRows(piece, 2);
        for (int row = 2; row <= 20; row++) {
            piece.rows("kk");
        }
        Check.due("row 20", piece.program(20, 3), 2);
        refusedRows(piece, 0, 21);
        piece.castOn(2);
        refusedRows(piece, 0, 1, 20);
    }

    private static void refusedRows(Piece piece, int... rows) {
        for (int row : rows) {
            String call = "program(" + row + ", 0)";
            piece.refuses(call, IndexOutOfBoundsException.class, x -> x.program(row, 0));
        }
    }

    private static void anotherWhat() {
        Piece piece = Piece.cast(2).rows("kp").text("pk");
        piece.dueProgram(1, 1, 0, 0, 2, 0);
        for (int what : new int[] {-1, 5, 6, -2, Integer.MIN_VALUE, Integer.MAX_VALUE}) {
            String call = "program(1, " + what + ")";
            piece.refuses(call, IllegalArgumentException.class, x -> x.program(1, what));
        }
    }

    private static void bothWrong() {
        Piece piece = Piece.cast(2).rows("kp");
        for (int row : new int[] {0, 2}) {
            for (int what : new int[] {-1, 5}) {
                String call = "program(" + row + ", " + what + ")";
                piece.refuses(call, IndexOutOfBoundsException.class, x -> x.program(row, what));
            }
        }
    }
}
