/** Promise 14: bed. */
public final class Promise14BedTest {
    public static void main(String[] args) {
        Check.sentence("The bed on which a column lies", Promise14BedTest::beds);
        Check.sentence("NONE when there is no such column", Promise14BedTest::noSuchColumn);
        Check.finish();
    }

    private static void beds() {
        Piece piece = Piece.cast(6);
        piece.dueBeds(0, 0, 0, 0, 0, 0);
        piece.rows("kptmxp");
        piece.dueBeds(0, 1, 0, 0, 1);
        piece.rows("otmtmt");
        piece.dueBeds(0, 0, 1, 0, 0, 1);
        piece.rows("pp<11pp");
        piece.dueBeds(1, 1, 0, 0, 1, 1);
        piece.rows("lrl");
        piece.dueBeds(0, 0, 0);
        piece.rows("ppp");
        piece.dueBeds(1, 1, 1);
        piece.rows("c");
        piece.dueBeds(0);
        piece.ravel();
        piece.dueBeds(1, 1, 1);
    }

    private static void noSuchColumn() {
        for (int columns = 1; columns <= 16; columns++) {
            Piece piece = Piece.cast(columns).rows(Piece.times(columns, "p"));
            Check.due("the column before the first", piece.bed(-1), -1);
            Check.due("the first", piece.bed(0), 1);
            Check.due("the last", piece.bed(columns - 1), 1);
            Check.due("the one behind it", piece.bed(columns), -1);
        }
        Piece piece = Piece.cast(4);
        for (int column : new int[] {-2, 5, 16, 17, 300, Integer.MIN_VALUE, Integer.MAX_VALUE}) {
            Check.due("bed(" + column + ")", piece.bed(column), -1);
        }
        piece.rows("xxkk");
        piece.dueBeds(0, 0);
        Check.due("before casting on", new Piece().bed(0), -1);
    }
}
