/** "Terms": in what order loops are made, and where carriers go. */
public final class TermsOrderTest {
    public static void main(String[] args) {
        Check.sentence("rows with an odd number go from the right to the left, with an even number from the left to the"
            + " right", TermsOrderTest::order);
        Check.sentence("Loops of a row are made in its order: those of every stitch", TermsOrderTest::everyStitch);
        Check.sentence("A loop's column is that of its row which the stitch gives", TermsOrderTest::columns);
        Check.sentence("The row's CARRIER makes all of them", TermsOrderTest::carrierMakesAll);
        Check.sentence("it goes from the side where the row begins to the other one", TermsOrderTest::carrierGoes);
        Check.sentence("A carrier that made no row yet may begin anywhere", TermsOrderTest::newCarriers);
        Check.sentence("casting on leaves the carrier 0 on the right", TermsOrderTest::castingOn);
        Check.finish();
    }

    private static void order() {
        Piece piece = Piece.cast(3);
        for (int row = 1; row <= 20; row++) {
            piece.rows("kkk");
            int left = piece.live(0, 0);
            Check.due("left loop of row " + row, left, row % 2 == 1 ? 3 * row + 2 : 3 * row);
            Check.due("middle loop of row " + row, piece.live(1, 0), 3 * row + 1);
            Check.due("right loop of row " + row, piece.live(2, 0), row % 2 == 1 ? 3 * row : 3 * row + 2);
        }
    }

    private static void everyStitch() {
        // The columns are given by k, t, m, o, p, l, <, < and o.
        String text = "ktmopl<11o";
        int[] odd = {15, 14, 2, 13, 12, 11, 10, 9, 8};
        int[] even = {15, 16, 2, 17, 18, 19, 20, 21, 22};
        Piece first = Piece.cast(8).rows(text);
        for (int column = 0; column < odd.length; column++) {
            int depth = column == 1 ? 1 : 0;
            Check.due("row 1, column " + column, first.live(column, depth), odd[column]);
        }
        Piece second = Piece.cast(8).rows("kkmkkkkk");
        Check.due("loops", second.number(2), 15);
        second.rows(text);
        for (int column = 0; column < even.length; column++) {
            int depth = column == 1 ? 1 : 0;
            Check.due("row 2, column " + column, second.live(column, depth), even[column]);
        }
    }

    private static void columns() {
        Piece piece = Piece.cast(6).rows("xoolkxko");
        // o, o, l, k, k, o; made from the right.
        for (int i = 0; i < 6; i++) {
            piece.dueLoop(6 + i, 1, 5 - i, 0, 0, 5 - i);
        }
        piece.dueParents(7, 5);
        piece.dueParents(8, 3);
        piece.dueParents(9, 2, 1);
        Piece cross = Piece.cast(4).rows("k>21");
        int[] parents = {2, 1, 3, 0};
        for (int i = 0; i < 4; i++) {
            cross.dueLoop(4 + i, 1, 3 - i, 0, 0, 3 - i);
            cross.dueParents(4 + i, parents[i]);
        }
    }

    private static void carrierMakesAll() {
        for (int carrier = 0; carrier < 3; carrier++) {
            Piece piece = Piece.cast(10).rowsBy(carrier, "kpotlrx<11");
            for (int loop = 10; loop < 18; loop++) {
                Check.due("loop(" + loop + ", 3)", piece.loop(loop, 3), carrier);
            }
            Check.due("those of casting on stay", piece.loop(3, 3), 0);
        }
    }

    private static void carrierGoes() {
        Piece piece = Piece.cast(2).rows("kk");
        piece.dueSides(0, -1, -1);
        piece.rows("kk");
        piece.dueSides(1, -1, -1);
        piece.rowsBy(1, "kk");
        piece.dueSides(1, 0, -1);
        piece.fault("kk", 0, 6, -1);
        piece.rowsBy(1, "mm");
        piece.dueSides(1, 1, -1);
        piece.rows("mm");
        // It made no loop and went all the same.
        piece.dueSides(0, 1, -1);
        piece.fault("kk", 1, 6, -1);
        piece.rows("xok");
        piece.dueSides(1, 1, -1);
    }

    private static void newCarriers() {
        for (int carrier = 1; carrier < 3; carrier++) {
            Piece odd = Piece.cast(1).rowsBy(carrier, "k");
            odd.rowsBy(3 - carrier, "k");
            odd.fault("k", carrier, 6, -1);
            Piece even = Piece.cast(1).rows("k").rowsBy(carrier, "k").rowsBy(3 - carrier, "k");
            even.fault("k", carrier, 6, -1);
            even.rows("k");
        }
    }

    private static void castingOn() {
        Piece piece = Piece.cast(1).rowsBy(1, "k");
        piece.dueSides(1, 0, -1);
        piece.fault("k", 0, 6, -1);
        piece.rowsBy(1, "k").rows("k");
        piece.dueSides(0, 1, -1);
    }
}
