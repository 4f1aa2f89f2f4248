/**
 * "Methods throw what their comments name, the one named first when several would do; a call that throws, or tells a
 * fault, changes nothing but place()." The other tests ask it of each call by itself, by Piece.refuses and Piece.fault.
 */
public final class TermsRefusedTest {
    private static final int[] FAR = {-1, 17, 301, Integer.MIN_VALUE, Integer.MAX_VALUE};

    public static void main(String[] args) {
        Check.sentence("the one named first when several would do", TermsRefusedTest::namedFirst);
        Check.sentence("a call that throws .. changes nothing but place()", TermsRefusedTest::throwing);
        Check.sentence("a call that .. tells a fault, changes nothing but place()", TermsRefusedTest::telling);
        Check.sentence("Methods throw what their comments name, and others nothing", TermsRefusedTest::askingTooFar);
        Check.finish();
    }

    /** All kinds of stitches, dropped loops, crossings, both beds, two carriers, a text and a fault with a place. */
    private static Piece rich() {
        Piece piece = Piece.cast(8).rowsBy(1, "ptk<11xkt").rowsBy(2, "mtp>12m").rowsBy(2, "ooptmmrk").text("kz");
        Check.due("knit", piece.knit(2), 1);
        Check.due("place()", piece.place(), 1);
        return piece;
    }

    private static void namedFirst() {
        Piece fresh = new Piece();
        for (int carrier : FAR) {
            fresh.refusesToKnit(carrier, IllegalStateException.class);
        }
        Piece piece = rich();
        for (int far : FAR) {
            piece.refuses("program(0, " + far + ")", IndexOutOfBoundsException.class, x -> x.program(0, far));
            piece.refuses("program(4, " + far + ")", IndexOutOfBoundsException.class, x -> x.program(4, far));
            piece.refuses("loop(-1, " + far + ")", IndexOutOfBoundsException.class, x -> x.loop(-1, far));
            piece.refuses("loop(300, " + far + ")", IndexOutOfBoundsException.class, x -> x.loop(300, far));
        }
    }

    private static void throwing() {
        Piece piece = rich();
        int loops = piece.number(2);
        for (int columns : new int[] {0, 17}) {
            piece.refuses("castOn(" + columns + ")", IllegalArgumentException.class, x -> {
                x.castOn(columns);
                return 0;
            });
        }
        for (int row : new int[] {0, 4}) {
            piece.refuses("program(" + row + ", 0)", IndexOutOfBoundsException.class, x -> x.program(row, 0));
            piece.refuses("cross(" + row + ", 0)", IndexOutOfBoundsException.class, x -> x.cross(row, 0));
        }
        for (int what : new int[] {-1, 5}) {
            piece.refuses("program(1, " + what + ")", IllegalArgumentException.class, x -> x.program(1, what));
            piece.refuses("loop(0, " + what + ")", IllegalArgumentException.class, x -> x.loop(0, what));
        }
        for (int loop : new int[] {-1, loops}) {
            piece.refuses("parent(" + loop + ", 0)", IndexOutOfBoundsException.class, x -> x.parent(loop, 0));
            piece.refuses("loop(" + loop + ", 0)", IndexOutOfBoundsException.class, x -> x.loop(loop, 0));
        }
        piece.refusesToKnit(-1, IllegalArgumentException.class);
        piece.refusesToKnit(3, IllegalArgumentException.class);
        // A text that could be knitted is not knitted by a wrong carrier either.
        piece.text("mmmmmmmm");
        piece.refusesToKnit(3, IllegalArgumentException.class);
        Check.due("knit of the same text", piece.knit(2), 0);
    }

    private static void telling() {
        Piece piece = rich();
        piece.fault("kkk<1", 2, 1, 5);
        piece.fault("kkk", 2, 2, -1);
        piece.fault("xxxxxxxx", 2, 3, -1);
        piece.fault(Piece.times(9, "o") + "kkkkkkkk", 2, 3, -1);
        piece.fault("mmmtmmmm", 2, 4, 3);
        piece.fault("x" + Piece.times(10, "o") + "kxxxxxk", 2, 5, 11);
        piece.fault("mmmmmmmm", 0, 6, -1);
    }

    /** Questions with wrong arguments that answer NONE, and the others, change nothing and throw nothing. */
    private static void askingTooFar() {
        Piece piece = rich();
        var before = View.deep(piece);
        for (int far : FAR) {
            Check.due("number(" + far + ")", piece.number(far), -1);
            Check.due("live(" + far + ", 0)", piece.live(far, 0), -1);
            Check.due("live(0, " + far + ")", piece.live(0, far), -1);
            Check.due("bed(" + far + ")", piece.bed(far), -1);
            Check.due("side(" + far + ")", piece.side(far), -1);
            Check.due("parent(0, " + far + ")", piece.parent(0, far), -1);
            Check.due("cross(1, " + far + ")", piece.cross(1, far), -1);
        }
        piece.write(0);
        Check.same("what the questions changed", View.deep(piece), before);
        Check.due("place()", piece.place(), 1);
    }
}
