/** Promise 8: number. */
public final class Promise08NumberTest {
    private static final int[] WRONG = {-1, 4, -2, 5, 256, Integer.MIN_VALUE, Integer.MAX_VALUE};

    public static void main(String[] args) {
        Check.sentence("How many rows there are (what = 0)", Promise08NumberTest::rows);
        Check.sentence("columns (1)", Promise08NumberTest::columns);
        Check.sentence("loops (2)", Promise08NumberTest::loops);
        Check.sentence("dropped loops (3)", Promise08NumberTest::dropped);
        Check.sentence("NONE for another what", Promise08NumberTest::anotherWhat);
        Check.sentence("0 for all before casting on", Promise08NumberTest::beforeCastingOn);
        Check.finish();
    }

    private static void rows() {
        Piece piece = Piece.cast(2);
        Check.due("none", piece.number(0), 0);
        for (int row = 1; row <= 20; row++) {
            piece.rows("km");
            Check.due("number(0)", piece.number(0), row);
        }
        piece.text("km");
        Check.due("knit", piece.knit(0), 7);
        Check.due("a row that was refused is none", piece.number(0), 20);
    }

    private static void columns() {
        Piece piece = Piece.cast(3);
        Check.due("number(1)", piece.number(1), 3);
        piece.rows("kkk" + Piece.times(13, "o"));
        Check.due("number(1)", piece.number(1), 16);
        piece.rows(Piece.times(8, "r"));
        Check.due("number(1)", piece.number(1), 8);
        piece.rows("cckk");
        Check.due("number(1)", piece.number(1), 4);
        piece.rows("xxxk");
        Check.due("number(1)", piece.number(1), 1);
    }

    private static void loops() {
        Piece piece = Piece.cast(4);
        Check.due("number(2)", piece.number(2), 4);
        piece.rows("mmmm");
        Check.due("m makes none", piece.number(2), 4);
        piece.rows("mxtk");
        Check.due("x makes none and takes none away", piece.number(2), 6);
        piece.rows("o<12");
        Check.due("four more", piece.number(2), 10);
        piece.rows("cp");
        Check.due("two more", piece.number(2), 12);
        piece.rows("lo");
        Check.due("two more", piece.number(2), 14);
    }

    private static void dropped() {
        Piece piece = Piece.cast(5).rows("tkkkk", "tkkkk", "tkkkk");
        Check.due("none", piece.number(3), 0);
        piece.rows("mxkkk");
        Check.due("one", piece.number(3), 1);
        piece.rows("xkkk");
        Check.due("all four of a stack", piece.number(3), 5);
        piece.rows("kxx");
        Check.due("two more", piece.number(3), 7);
        piece.rows("k");
        Check.due("it stays", piece.number(3), 7);
        piece.castOn(2);
        Check.due("none when cast on anew", piece.number(3), 0);
    }

    private static void anotherWhat() {
        Piece piece = Piece.cast(5).rows("xktmk");
        piece.dueNumbers(1, 4, 8, 1);
        for (int what : WRONG) {
            Check.due("number(" + what + ")", piece.number(what), -1);
        }
    }

    private static void beforeCastingOn() {
        Piece piece = new Piece();
        piece.dueNumbers(0, 0, 0, 0);
        piece.write("kkk");
        piece.dueNumbers(0, 0, 0, 0);
        piece.castOn(1);
        piece.dueNumbers(0, 1, 1, 0);
    }
}
