/** Promise 6: place. */
public final class Promise06PlaceTest {
    public static void main(String[] args) {
        Check.sentence("The place of the fault that knit() told last", Promise06PlaceTest::toldLast);
        Check.sentence("NONE when it told none", Promise06PlaceTest::toldNone);
        Check.sentence("NONE when it told .. one without a place", Promise06PlaceTest::withoutPlace);
        Check.sentence("NONE when it .. was never called", Promise06PlaceTest::neverCalled);
        Check.sentence("other calls leave the place", Promise06PlaceTest::otherCalls);
        Check.finish();
    }

    private static void told(Piece piece, String text, int carrier, int fault, int place) {
        piece.text(text);
        Check.due("knit(" + carrier + ") of " + text, piece.knit(carrier), fault);
        Check.due("place()", piece.place(), place);
        Check.due("place() again", piece.place(), place);
    }

    private static void toldLast() {
        Piece piece = Piece.cast(3);
        told(piece, "", 0, 1, 0);
        told(piece, "kkz", 0, 1, 2);
        told(piece, "kzz", 0, 1, 1);
        told(piece, Piece.times(39, "k") + "z", 0, 1, 39);
        told(piece, Piece.times(39, "k") + "<", 0, 1, 40);
        told(piece, "kooooooooopk", 0, 5, 10);
        piece.rows("tkk", "tkk", "tkk");
        told(piece, "tkk", 0, 4, 0);
        told(piece, "z", 0, 1, 0);
        told(piece, "kkoooooooook", 0, 5, 11);
    }

    private static void toldNone() {
        Piece piece = Piece.cast(2);
        told(piece, "kz", 0, 1, 1);
        told(piece, "kk", 0, 0, -1);
        told(piece, "kk", 0, 0, -1);
        told(piece, "z", 0, 1, 0);
        told(piece, "kk", 0, 0, -1);
    }

    /** Each behind a fault that has one. */
    private static void withoutPlace() {
        Piece piece = Piece.cast(16);
        for (int row = 1; row <= 17; row++) {
            piece.rows(Piece.times(16, "k"));
        }
        String wrong = "kkkkkz";
        told(piece, wrong, 0, 1, 5);
        told(piece, "k", 0, 2, -1);
        told(piece, wrong, 0, 1, 5);
        told(piece, Piece.times(16, "x"), 0, 3, -1);
        told(piece, wrong, 0, 1, 5);
        told(piece, Piece.times(17, "k").replaceFirst("k", "o"), 0, 3, -1);
        told(piece, wrong, 0, 1, 5);
        told(piece, Piece.times(16, "k"), 0, 8, -1);
        piece.rowsBy(1, Piece.times(16, "m"));
        told(piece, wrong, 0, 1, 5);
        told(piece, Piece.times(16, "m"), 0, 6, -1);
        piece.rowsBy(1, Piece.times(16, "m"), Piece.times(16, "m"));
        told(piece, wrong, 0, 1, 5);
        told(piece, Piece.times(16, "m"), 1, 7, -1);
    }

    private static void neverCalled() {
        Piece piece = new Piece();
        Check.due("place()", piece.place(), -1);
        piece.write("z");
        Check.due("place()", piece.place(), -1);
        piece.castOn(3);
        Check.due("place()", piece.place(), -1);
        piece.wipe();
        piece.ravel();
        Check.due("place()", piece.place(), -1);
    }

    private static void otherCalls() {
        Piece piece = Piece.cast(3).rows("kkk").text("kkz");
        Check.due("knit", piece.knit(0), 1);
        piece.write("kkk");
        piece.write(Piece.times(40, "k"));
        Check.due("place() behind write()", piece.place(), 2);
        piece.wipe();
        Check.due("place() behind wipe()", piece.place(), 2);
        piece.number(0);
        piece.program(1, 0);
        piece.cross(1, 0);
        piece.parent(3, 0);
        piece.loop(3, 0);
        piece.live(0, 0);
        piece.bed(0);
        piece.side(0);
        Check.due("place() behind questions", piece.place(), 2);
        Check.due("ravel()", piece.ravel(), 0);
        Check.due("place() behind ravel()", piece.place(), 2);
        Check.due("ravel() again", piece.ravel(), -1);
        Check.due("place() behind ravel() of no row", piece.place(), 2);
        piece.castOn(2);
        Check.due("place() behind castOn()", piece.place(), 2);
        piece.write("k");
        Check.due("knit", piece.knit(0), 2);
        Check.due("place()", piece.place(), -1);
        told(piece, "kz", 0, 1, 1);
        told(piece, "kk", 0, 0, -1);
        Check.due("ravel()", piece.ravel(), 0);
        Check.due("a ravelled row was knitted without a fault", piece.place(), -1);
    }
}
