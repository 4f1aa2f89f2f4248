/** Promise 1: a new object. */
public final class Promise01NewObjectTest {
    public static void main(String[] args) {
        Check.sentence("Nothing is cast on: no cloth", Promise01NewObjectTest::noCloth);
        Check.sentence("Nothing is cast on: no loops and no rows", Promise01NewObjectTest::noLoopsAndNoRows);
        Check.sentence("Nothing is cast on: nothing to knit", Promise01NewObjectTest::nothingToKnit);
        Check.sentence("an empty text", Promise01NewObjectTest::emptyText);
        Check.finish();
    }

    private static void noCloth() {
        Piece piece = new Piece();
        piece.dueNumbers(0, 0, 0, 0);
        piece.dueSides(-1, -1, -1);
        piece.dueBeds();
        piece.dueStack(0);
        piece.dueStack(15);
        Check.due("ravel()", piece.ravel(), -1);
        Check.due("place()", piece.place(), -1);
    }

    private static void noLoopsAndNoRows() {
        Piece piece = new Piece();
        piece.refuses("program(0, 0)", IndexOutOfBoundsException.class, x -> x.program(0, 0));
        piece.refuses("program(1, 0)", IndexOutOfBoundsException.class, x -> x.program(1, 0));
        piece.refuses("cross(1, 0)", IndexOutOfBoundsException.class, x -> x.cross(1, 0));
        piece.refuses("parent(0, 0)", IndexOutOfBoundsException.class, x -> x.parent(0, 0));
        piece.refuses("loop(0, 0)", IndexOutOfBoundsException.class, x -> x.loop(0, 0));
    }

    private static void nothingToKnit() {
        Piece piece = new Piece();
        piece.refusesToKnit(0, IllegalStateException.class);
        Check.due("write(k)", piece.write("k"), 1);
        piece.refusesToKnit(2, IllegalStateException.class);
        piece.castOn(1);
        Check.due("the first knit that can be", piece.knit(0), 0);
    }

    private static void emptyText() {
        Check.due("wipe()", new Piece().wipe(), 0);
        Check.due("write(0)", new Piece().write(0), 0);
        Check.due("the first character", new Piece().write("k"), 1);
        Piece piece = Piece.cast(1);
        Check.due("an empty text is a fault", piece.knit(0), 1);
        Check.due("at its beginning", piece.place(), 0);
    }
}
