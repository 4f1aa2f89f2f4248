/** "Terms": how many loops, columns, rows, and loops in a stack there are; casting on; 512 calls. */
public final class TermsClothTest {
    public static void main(String[] args) {
        Check.sentence("LOOPS are numbered 0, 1, .. in the order in which they are made", TermsClothTest::numbered);
        Check.sentence("300 at most", TermsClothTest::mostLoops);
        Check.sentence("300 at most: dropped ones are loops too", TermsClothTest::mostLoopsWithDropped);
        Check.sentence("a BED (0 front, 1 back) and a CARRIER (0 .. 2)", TermsClothTest::bedsAndCarriers);
        Check.sentence("THE CLOTH has COLUMNS, 1 to 16: cast on", TermsClothTest::columnsCastOn);
        Check.sentence("THE CLOTH has COLUMNS, 1 to 16: knitted", TermsClothTest::columnsKnitted);
        Check.sentence("numbered from the left, from 0 on", TermsClothTest::columnNumbers);
        Check.sentence("Each has a STACK of one to four loops", TermsClothTest::stackSizes);
        Check.sentence("the deepest first", TermsClothTest::deepestFirst);
        Check.sentence("It begins with casting on: so many columns, each with one loop, made from the left to the"
            + " right, without parents, of the row 0, on the front bed, by the carrier 0", TermsClothTest::castingOn);
        Check.sentence("Then come the rows 1, 2, .., 20 at most", TermsClothTest::mostRows);
        Check.sentence("An object is used for at most 512 calls", TermsClothTest::mostCalls);
        Check.finish();
    }

    private static void numbered() {
        Piece piece = Piece.cast(3);
        piece.dueStack(0, 0);
        piece.dueStack(2, 2);
        piece.rows("kkk");
        piece.dueStack(2, 3);
        piece.dueStack(1, 4);
        piece.dueStack(0, 5);
        piece.rows("kxk");
        piece.dueStack(0, 6);
        piece.dueStack(1, 7);
        Check.due("loops", piece.number(2), 8);
    }

    /** Seventeen rows of 16 columns: 288 loops. */
    private static Piece loops288() {
        Piece piece = Piece.cast(16);
        for (int row = 1; row <= 17; row++) {
            piece.rows(Piece.times(16, "k"));
        }
        return piece;
    }

    private static void mostLoops() {
        Piece piece = loops288();
        piece.fault(Piece.times(13, "k") + "mmm", 0, 8, -1);
        piece.fault(Piece.times(16, "k"), 0, 8, -1);
        piece.rows(Piece.times(11, "k") + "mmmmm");
        Check.due("loops", piece.number(2), 299);
        piece.fault("kk" + Piece.times(14, "m"), 0, 8, -1);
        piece.rows(Piece.times(15, "m") + "t");
        Check.due("loops", piece.number(2), 300);
        piece.dueLoop(299, 19, 15, 0, 0, 15);
        piece.refuses("loop(300, 0)", IndexOutOfBoundsException.class, x -> x.loop(300, 0));
        piece.fault(Piece.times(15, "m") + "k", 0, 8, -1);
        piece.rows(Piece.times(15, "m") + "x");
        piece.dueNumbers(20, 15, 300, 2);
        Piece atOnce = loops288().rows(Piece.times(12, "p") + "mmmm");
        Check.due("loops", atOnce.number(2), 300);
        atOnce.dueLoop(299, 18, 11, 1, 0, 11);
    }

    private static void mostLoopsWithDropped() {
        Piece piece = Piece.cast(16);
        for (int row = 1; row <= 17; row++) {
            piece.rows("xo" + Piece.times(15, "k"));
        }
        piece.dueNumbers(17, 16, 288, 17);
        piece.fault(Piece.times(13, "k") + "mmm", 0, 8, -1);
        piece.fault("xo" + Piece.times(12, "k") + "mmm", 0, 8, -1);
        piece.rows("xo" + Piece.times(11, "k") + "mmmm");
        piece.dueNumbers(18, 16, 300, 18);
        piece.fault("xo" + Piece.times(15, "m"), 0, 8, -1);
    }

    private static void bedsAndCarriers() {
        Piece piece = Piece.cast(2).rowsBy(1, "kp").rowsBy(2, "pk").rowsBy(0, "kp");
        piece.dueLoop(2, 1, 1, 1, 1, -1);
        piece.dueLoop(3, 1, 0, 0, 1, -1);
        piece.dueLoop(4, 2, 0, 1, 2, -1);
        piece.dueLoop(5, 2, 1, 0, 2, -1);
        piece.dueLoop(6, 3, 1, 1, 0, 1);
        piece.dueLoop(7, 3, 0, 0, 0, 0);
    }

    private static void columnsCastOn() {
        Piece.cast(1).dueNumbers(0, 1, 1, 0);
        Piece.cast(16).dueNumbers(0, 16, 16, 0);
        for (int columns : new int[] {0, 17}) {
            new Piece().refuses("castOn(" + columns + ")", IllegalArgumentException.class, x -> {
                x.castOn(columns);
                return 0;
            });
        }
    }

    private static void columnsKnitted() {
        Piece wide = Piece.cast(9);
        wide.fault(Piece.times(9, "k") + Piece.times(8, "o"), 0, 3, -1);
        wide.rows(Piece.times(9, "k") + Piece.times(7, "o"));
        Check.due("columns", wide.number(1), 16);
        wide.fault(Piece.times(16, "k") + "o", 0, 3, -1);
        wide.rows(Piece.times(16, "k"));
        Piece narrow = Piece.cast(3);
        narrow.fault("xxx", 0, 3, -1);
        narrow.rows("xxk");
        Check.due("columns", narrow.number(1), 1);
        narrow.fault("x", 0, 3, -1);
        narrow.rows("xo");
        Check.due("columns", narrow.number(1), 1);
    }

    private static void columnNumbers() {
        Piece piece = Piece.cast(4).rows("pkkk");
        piece.dueBeds(1, 0, 0, 0);
        piece.rows("okpkp");
        piece.dueBeds(0, 0, 1, 0, 1);
        Check.due("the last loop's column", piece.loop(12, 1), 4);
        Check.due("the first loop's column", piece.loop(8, 1), 0);
    }

    private static void stackSizes() {
        Piece piece = Piece.cast(2).rows("tk");
        piece.dueStack(0, 0, 3);
        piece.dueStack(1, 2);
        piece.rows("tk");
        piece.dueStack(0, 0, 3, 4);
        piece.rows("tk");
        piece.dueStack(0, 0, 3, 4, 7);
        piece.dueStack(1, 6);
        piece.fault("tk", 0, 4, 0);
        piece.rows("mt");
        piece.dueStack(0, 0, 3, 4, 7);
        piece.dueStack(1, 6, 8);
        piece.rows("km");
        piece.dueStack(0, 9);
    }

    private static void deepestFirst() {
        Piece piece = Piece.cast(1).rows("k", "t", "m", "t");
        Check.due("the deepest", piece.live(0, 0), 1);
        Check.due("above it", piece.live(0, 1), 2);
        Check.due("the upmost", piece.live(0, 2), 3);
    }

    private static void castingOn() {
        for (int columns : new int[] {1, 7, 16}) {
            Piece piece = Piece.cast(columns);
            Check.due("loops", piece.number(2), columns);
            for (int i = 0; i < columns; i++) {
                piece.dueStack(i, i);
                piece.dueLoop(i, 0, i, 0, 0, i);
                Check.due("parent(" + i + ", 0)", piece.parent(i, 0), -1);
            }
        }
    }

    private static void mostRows() {
        Piece piece = Piece.cast(2);
        for (int row = 1; row <= 20; row++) {
            piece.rows("km");
            Check.due("rows", piece.number(0), row);
            Check.due("row of the new loop", piece.loop(1 + row, 0), row);
        }
        piece.fault("km", 0, 7, -1);
        piece.fault("mm", 2, 7, -1);
        Check.due("rows", piece.number(0), 20);
    }

    private static void mostCalls() {
        Piece piece = Piece.cast(2).rows("kp");
        while (piece.callsLeft() > 5) {
            Check.due("place()", piece.place(), -1);
        }
        Check.due("ravel()", piece.ravel(), 0);
        Check.due("write(pk)", piece.write("pk"), 2);
        Check.due("knit", piece.knit(0), 0);
        Check.due("bed(0)", piece.bed(0), 1);
        Check.due("the 512th call", piece.loop(2, 1), 1);
        Check.due("calls left", piece.callsLeft(), 0);
    }
}
