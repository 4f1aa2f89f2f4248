import java.util.ArrayList;
import java.util.List;

/** Promise 7: ravel. */
public final class Promise07RavelTest {
    private static final String[] ROWS = {"kptmkpkk", "<21>12xm", "toktkkpp", "rlcokoo", "pptmxkk", "xomck"};
    private static final int[] CARRIERS = {0, 1, 1, 2, 2, 1};

    public static void main(String[] args) {
        Check.sentence("The last row is taken back: all is as before it was knitted", Promise07RavelTest::asBefore);
        Check.sentence("all .. but the text", Promise07RavelTest::butTheText);
        Check.sentence("Answers how many rows there are then", Promise07RavelTest::answers);
        Check.sentence("NONE when there is none", Promise07RavelTest::noRow);
        Check.sentence("as before: there is room for row 20 again", Promise07RavelTest::roomForRows);
        Check.sentence("as before: there is room for loops again", Promise07RavelTest::roomForLoops);
        Check.sentence("as before: dropped loops are in their stacks again", Promise07RavelTest::droppedLoops);
        Check.sentence("as before: nothing is left of the loops that were made since",
            Promise07RavelTest::loopsAreGone);
        Check.sentence("as before: carriers rest where they did", Promise07RavelTest::carriers);
        Check.sentence("The last row: not one that was a fault", Promise07RavelTest::faultsAreNoRows);
        Check.finish();
    }

    private static void asBefore() {
        Piece piece = Piece.cast(8);
        List<List<String>> views = new ArrayList<>();
        for (int i = 0; i < ROWS.length; i++) {
            views.add(View.deep(piece.text(ROWS[i])));
            Check.due("knit of " + ROWS[i], piece.knit(CARRIERS[i]), 0);
        }
        for (int i = ROWS.length - 1; i >= 0; i--) {
            Check.due("ravel()", piece.ravel(), i);
            Check.same("before row " + (i + 1), View.deep(piece.text(ROWS[i])), views.get(i));
        }
        for (int i = 0; i < ROWS.length; i++) {
            Check.same("before row " + (i + 1) + " again", View.deep(piece.text(ROWS[i])), views.get(i));
            Check.due("knit of " + ROWS[i], piece.knit(CARRIERS[i]), 0);
        }
    }

    private static void butTheText() {
        Piece piece = Piece.cast(2).rows("kk");
        piece.ravel();
        Check.due("knitting emptied it", piece.wipe(), 0);
        piece.rows("kk");
        piece.write("pkz");
        piece.ravel();
        Check.due("what was written since stays", piece.wipe(), 3);
        piece.rows("kk");
        piece.write("pk");
        piece.ravel();
        Check.due("knit", piece.knit(0), 0);
        piece.dueBeds(1, 0);
    }

    private static void answers() {
        Piece piece = Piece.cast(1);
        for (int row = 1; row <= 20; row++) {
            piece.rows("k");
        }
        for (int row = 19; row >= 0; row--) {
            Check.due("ravel()", piece.ravel(), row);
            Check.due("number(0)", piece.number(0), row);
        }
        Check.due("ravel()", piece.ravel(), -1);
    }

    private static void noRow() {
        Piece fresh = new Piece();
        fresh.write("kp");
        changesNothing(fresh);
        Piece cast = Piece.cast(3).text("kpk");
        changesNothing(cast);
        Check.due("knit", cast.knit(0), 0);
        Check.due("the one row there is", cast.ravel(), 0);
        changesNothing(cast.text("ppk"));
        cast.castOn(5);
        changesNothing(cast);
    }

    private static void changesNothing(Piece piece) {
        List<String> before = View.deep(piece);
        Check.due("ravel()", piece.ravel(), -1);
        Check.due("ravel() again", piece.ravel(), -1);
        Check.same("what it changed", View.deep(piece), before);
    }

    private static void roomForRows() {
        Piece piece = Piece.cast(1);
        for (int row = 1; row <= 20; row++) {
            piece.rows("k");
        }
        piece.fault("k", 0, 7, -1);
        Check.due("ravel()", piece.ravel(), 19);
        piece.rows("p");
        piece.fault("k", 0, 7, -1);
    }

    private static void roomForLoops() {
        Piece piece = Piece.cast(16);
        for (int row = 1; row <= 17; row++) {
            piece.rows(Piece.times(16, "k"));
        }
        piece.rows(Piece.times(12, "k") + "mmmm");
        Check.due("loops", piece.number(2), 300);
        Check.due("ravel()", piece.ravel(), 17);
        Check.due("loops", piece.number(2), 288);
        piece.rows("mmmm" + Piece.times(12, "t"));
        Check.due("loops", piece.number(2), 300);
        piece.dueLoop(299, 18, 15, 0, 0, 15);
    }

    private static void droppedLoops() {
        Piece piece = Piece.cast(3).rows("tkk", "xkk");
        piece.dueNumbers(2, 2, 8, 2);
        Check.due("where loop 0 is", piece.loop(0, 4), -2);
        piece.ravel();
        piece.dueNumbers(1, 3, 6, 0);
        piece.dueStack(0, 0, 5);
        Check.due("where loop 0 is", piece.loop(0, 4), 0);
        Check.due("where loop 5 is", piece.loop(5, 4), 0);
        piece.rows("kxk");
        Check.due("where loop 0 is", piece.loop(0, 4), -1);
        Check.due("where loop 4 is", piece.loop(4, 4), -2);
        Check.due("dropped", piece.number(3), 1);
    }

    private static void loopsAreGone() {
        Piece piece = Piece.cast(3).rows("<12", "tkk", "c");
        piece.dueParents(9, 5, 6, 8, 7);
        piece.ravel();
        piece.refuses("loop(9, 0)", IndexOutOfBoundsException.class, x -> x.loop(9, 0));
        piece.refuses("parent(9, 0)", IndexOutOfBoundsException.class, x -> x.parent(9, 0));
        piece.refuses("program(3, 0)", IndexOutOfBoundsException.class, x -> x.program(3, 0));
        piece.refuses("cross(3, 0)", IndexOutOfBoundsException.class, x -> x.cross(3, 0));
        piece.rows("mmmo");
        piece.dueParents(9);
        piece.dueLoop(9, 3, 3, 0, 0, 3);
        piece.ravel();
        piece.ravel();
        piece.ravel();
        piece.rows("ktk");
        piece.dueCrossed(1);
        piece.dueParents(3, 2);
        piece.dueParents(4);
        piece.dueParents(5, 0);
        piece.refuses("loop(6, 0)", IndexOutOfBoundsException.class, x -> x.loop(6, 0));
    }

    private static void carriers() {
        Piece piece = Piece.cast(1).rowsBy(1, "k").rowsBy(2, "k").rowsBy(0, "k");
        piece.dueSides(0, 0, 1);
        piece.ravel();
        piece.dueSides(1, 0, 1);
        piece.ravel();
        piece.dueSides(1, 0, -1);
        piece.ravel();
        piece.dueSides(1, -1, -1);
        piece.rowsBy(2, "k").rowsBy(1, "k");
        piece.dueSides(1, 1, 0);
    }

    private static void faultsAreNoRows() {
        Piece piece = Piece.cast(2).rows("kk", "pp").text("z");
        Check.due("knit", piece.knit(0), 1);
        Check.due("ravel()", piece.ravel(), 1);
        piece.dueBeds(0, 0);
        piece.dueNumbers(1, 2, 4, 0);
    }
}
