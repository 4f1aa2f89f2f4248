/** Promise 4: castOn. */
public final class Promise04CastOnTest {
    private static final int[] WRONG = {0, 17, -1, 18, 33, 257, 65537, Integer.MIN_VALUE, Integer.MAX_VALUE};

    public static void main(String[] args) {
        Check.sentence("columns is 1 .. 16", Promise04CastOnTest::everyNumber);
        Check.sentence("IllegalArgumentException: columns is not 1 .. 16", Promise04CastOnTest::refused);
        Check.sentence("Casts on anew: no loops but these, no rows", Promise04CastOnTest::anew);
        Check.sentence("The carriers 1 and 2 have made no row; 0 rests on the right", Promise04CastOnTest::carriers);
        Check.sentence("castOn() changes neither the text nor the place", Promise04CastOnTest::textAndPlace);
        Check.finish();
    }

    private static void everyNumber() {
        for (int columns = 1; columns <= 16; columns++) {
            Piece piece = Piece.cast(columns);
            piece.dueNumbers(0, columns, columns, 0);
            piece.dueBeds(new int[columns]);
            for (int i = 0; i < columns; i++) {
                piece.dueStack(i, i);
                piece.dueLoop(i, 0, i, 0, 0, i);
            }
            piece.dueStack(columns);
            piece.rows(Piece.times(columns, "k"));
        }
    }

    private static void refused() {
        for (int columns : WRONG) {
            Piece fresh = new Piece();
            fresh.refuses("castOn(" + columns + ")", IllegalArgumentException.class, x -> cast(x, columns));
            fresh.dueNumbers(0, 0, 0, 0);
            fresh.refusesToKnit(0, IllegalStateException.class);
        }
        Piece piece = Piece.cast(4).rowsBy(1, "xptm").text("kkz");
        piece.knit(0);
        for (int columns : WRONG) {
            piece.refuses("castOn(" + columns + ")", IllegalArgumentException.class, x -> cast(x, columns));
        }
        piece.dueNumbers(1, 3, 6, 1);
    }

    private static int cast(ChartKnitter x, int columns) {
        x.castOn(columns);
        return 0;
    }

    /** As on a new object, whatever was knitted before. */
    private static void anew() {
        for (int columns : new int[] {1, 4, 16}) {
            Piece piece = Piece.cast(8).rowsBy(1, "<21>12xp").rowsBy(2, "tpmtxkp").rowsBy(2, "ckkk");
            piece.castOn(columns);
            sameAsNew(piece, columns);
            piece.dueNumbers(0, columns, columns, 0);
            Check.due("ravel()", piece.ravel(), -1);
        }
        Piece full = Piece.cast(16);
        for (int row = 1; row <= 20; row++) {
            full.rows(row <= 17 ? Piece.times(16, "k") : Piece.times(4, "t") + Piece.times(12, "m"));
        }
        full.dueNumbers(20, 16, 300, 0);
        full.castOn(16);
        sameAsNew(full, 16);
        full.rows(Piece.times(16, "p"));
        full.dueNumbers(1, 16, 32, 0);
    }

    private static void sameAsNew(Piece piece, int columns) {
        String row = Piece.times(columns - 1, "k") + "p";
        piece.text(row);
        Check.same("casting on " + columns + " anew", View.deep(piece), View.deep(Piece.cast(columns).text(row)));
    }

    private static void carriers() {
        Piece piece = Piece.cast(2).rowsBy(1, "kk").rowsBy(2, "kk").rowsBy(2, "kk");
        piece.dueSides(1, 0, 0);
        piece.castOn(2);
        piece.dueSides(1, -1, -1);
        piece.rowsBy(1, "kk");
        Piece zero = Piece.cast(2).rows("kk");
        zero.dueSides(0, -1, -1);
        zero.castOn(2);
        zero.dueSides(1, -1, -1);
        zero.rows("kk").rowsBy(2, "kk");
        zero.dueSides(0, -1, 1);
    }

    private static void textAndPlace() {
        Piece piece = Piece.cast(3).text("kkz");
        Check.due("knit", piece.knit(0), 1);
        piece.castOn(2);
        Check.due("place()", piece.place(), 2);
        Check.due("wipe()", piece.wipe(), 3);
        piece.write("kp");
        piece.castOn(2);
        Check.due("knit", piece.knit(0), 0);
        piece.dueBeds(0, 1);
        Piece early = new Piece();
        early.write("p");
        early.castOn(1);
        Check.due("a text from before", early.knit(0), 0);
    }
}
