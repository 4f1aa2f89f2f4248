/** Promise 5: knit. */
public final class Promise05KnitTest {
    private static final int[] WRONG = {-1, 3, 4, 256, Integer.MIN_VALUE, Integer.MAX_VALUE};

    public static void main(String[] args) {
        Check.sentence("Knits the text as the next row by a carrier", Promise05KnitTest::nextRow);
        Check.sentence("Knits the text .., and nothing of an earlier one", Promise05KnitTest::thisTextAlone);
        Check.sentence("0, and the text is empty", Promise05KnitTest::textIsEmpty);
        Check.sentence("otherwise the fault (the text stays)", Promise05KnitTest::textStays);
        Check.sentence("IllegalStateException: nothing was cast on", Promise05KnitTest::nothingCastOn);
        Check.sentence("IllegalArgumentException: carrier is not 0 .. 2", Promise05KnitTest::noSuchCarrier);
        Check.finish();
    }

    private static void nextRow() {
        Piece piece = Piece.cast(2);
        int[] carriers = {2, 1, 1, 2};
        for (int row = 1; row <= carriers.length; row++) {
            piece.rowsBy(carriers[row - 1], "kk");
            Check.due("rows", piece.number(0), row);
            Check.due("row of the new loop", piece.loop(2 * row, 0), row);
            Check.due("its carrier", piece.loop(2 * row, 3), carriers[row - 1]);
        }
    }

    /** Longer texts, refused or knitted, come before shorter ones. */
    private static void thisTextAlone() {
        Piece piece = Piece.cast(3);
        piece.fault("kkk<11", 0, 2, -1);
        piece.rows("kkk");
        piece.dueProgram(1, 0, 0, 0, 3, 0);
        piece.dueNumbers(1, 3, 6, 0);
        piece.rows("k<11", "c");
        piece.dueProgram(3, 6, 3, 0, 1, 0);
        piece.rows("xo", "k");
        piece.dueProgram(5, 0, 0, 0, 1, 0);
        piece.dueNumbers(5, 1, 12, 1);
    }

    private static void textIsEmpty() {
        Piece piece = Piece.cast(2);
        piece.write("kp");
        Check.due("knit", piece.knit(0), 0);
        Check.due("write(0)", piece.write(0), 0);
        Check.due("the empty text is a fault", piece.knit(0), 1);
        Check.due("at its beginning", piece.place(), 0);
        piece.write("pk");
        Check.due("the next text stands alone", piece.knit(0), 0);
        piece.dueBeds(1, 0);
        Check.due("wipe()", piece.wipe(), 0);
    }

    /** What is written behind a text that was a fault can mend it. */
    private static void textStays() {
        Piece piece = Piece.cast(2);
        piece.write("<");
        Check.due("knit of <", piece.knit(0), 1);
        Check.due("write", piece.write("1"), 2);
        Check.due("knit of <1", piece.knit(0), 1);
        Check.due("write", piece.write("1"), 3);
        Check.due("knit of <11", piece.knit(0), 0);
        piece.write("p");
        Check.due("knit of p", piece.knit(0), 2);
        Check.due("write", piece.write("k"), 2);
        Check.due("knit of pk", piece.knit(0), 0);
        piece.dueBeds(1, 0);
        piece.write("xx");
        Check.due("knit of xx", piece.knit(0), 3);
        Check.due("write", piece.write("o"), 3);
        Check.due("knit by 1", piece.knit(1), 0);
        piece.write("p");
        Check.due("knit by 1", piece.knit(1), 0);
        piece.write("k");
        Check.due("knit by 0", piece.knit(0), 0);
        piece.write("p");
        Check.due("knit by 1, which rests there", piece.knit(1), 6);
        Check.due("knit by 2, of the same text", piece.knit(2), 0);
        piece.dueBeds(1);
    }

    private static void nothingCastOn() {
        Piece piece = new Piece();
        piece.write("k");
        for (int carrier = 0; carrier < 3; carrier++) {
            piece.refusesToKnit(carrier, IllegalStateException.class);
        }
        Check.due("wipe()", piece.wipe(), 1);
        Piece once = Piece.cast(1).rows("k");
        once.ravel();
        once.write("k");
        Check.due("what was cast on stays when its rows are ravelled", once.knit(0), 0);
    }

    private static void noSuchCarrier() {
        for (int carrier = 0; carrier < 3; carrier++) {
            Piece.cast(1).rowsBy(carrier, "k");
        }
        Piece piece = Piece.cast(3).rows("ktp").text("kpk");
        for (int carrier : WRONG) {
            piece.refusesToKnit(carrier, IllegalArgumentException.class);
        }
        Check.due("the text stays", piece.wipe(), 3);
        piece.write("z");
        Check.due("knit", piece.knit(0), 1);
        for (int carrier : WRONG) {
            piece.refusesToKnit(carrier, IllegalArgumentException.class);
        }
    }
}
