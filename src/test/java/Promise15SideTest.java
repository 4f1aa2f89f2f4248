/** Promise 15: side. */
public final class Promise15SideTest {
    public static void main(String[] args) {
        Check.sentence("The side where a carrier rests: 0 left, 1 right", Promise15SideTest::sides);
        Check.sentence("NONE for one that made no row", Promise15SideTest::madeNoRow);
        Check.sentence("NONE .. for another carrier than 0 .. 2", Promise15SideTest::anotherCarrier);
        Check.finish();
    }

    private static void sides() {
        Piece piece = Piece.cast(1);
        for (int row = 1; row <= 20; row++) {
            piece.rows("k");
            piece.dueSides(row % 2 == 1 ? 0 : 1, -1, -1);
        }
        Piece three = Piece.cast(1).rowsBy(2, "k").rowsBy(1, "k");
        three.dueSides(1, 1, 0);
        three.rowsBy(0, "k").rowsBy(2, "k").rowsBy(1, "k");
        three.dueSides(0, 0, 1);
    }

    private static void madeNoRow() {
        Piece piece = Piece.cast(1);
        piece.dueSides(1, -1, -1);
        piece.text("z");
        Check.due("knit by 1", piece.knit(1), 1);
        piece.dueSides(1, -1, -1);
        piece.rowsBy(1, "m");
        piece.dueSides(1, 0, -1);
        piece.rowsBy(2, "m");
        piece.dueSides(1, 0, 1);
        piece.ravel();
        piece.dueSides(1, 0, -1);
        piece.ravel();
        piece.dueSides(1, -1, -1);
        new Piece().dueSides(-1, -1, -1);
    }

    private static void anotherCarrier() {
        Piece piece = Piece.cast(1).rowsBy(0, "k").rowsBy(1, "k").rowsBy(2, "k");
        piece.dueSides(0, 1, 0);
        for (int carrier : new int[] {-1, 3, -2, 4, 256, Integer.MIN_VALUE, Integer.MAX_VALUE}) {
            Check.due("side(" + carrier + ")", piece.side(carrier), -1);
            Check.due("side(" + carrier + ") before casting on", new Piece().side(carrier), -1);
        }
    }
}
