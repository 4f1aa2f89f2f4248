/** Promise 3: wipe. */
public final class Promise03WipeTest {
    public static void main(String[] args) {
        Check.sentence("The text is empty then", Promise03WipeTest::emptyThen);
        Check.sentence("Answers how many characters it had", Promise03WipeTest::answers);
        Check.sentence("wipe() changes the text alone", Promise03WipeTest::textAlone);
        Check.finish();
    }

    private static void emptyThen() {
        Piece piece = Piece.cast(2);
        piece.write("kkkk");
        piece.wipe();
        Check.due("write(0)", piece.write(0), 0);
        Check.due("knit", piece.knit(0), 1);
        Check.due("place()", piece.place(), 0);
        Check.due("wipe()", piece.wipe(), 0);
        Check.due("anew from the beginning", piece.write("pk"), 2);
        Check.due("knit", piece.knit(0), 0);
        piece.dueBeds(1, 0);
    }

    private static void answers() {
        for (int had = 0; had <= 40; had++) {
            Piece piece = new Piece();
            piece.write(Piece.times(had, "x"));
            Check.due("wipe() of " + had, piece.wipe(), had);
            Check.due("wipe() again", piece.wipe(), 0);
        }
        Piece piece = Piece.cast(2);
        piece.write("kk");
        piece.knit(0);
        Check.due("knitting left none", piece.wipe(), 0);
        piece.write("kkz");
        piece.knit(0);
        Check.due("a fault left all", piece.wipe(), 3);
    }

    private static void textAlone() {
        Piece piece = Piece.cast(4).rows("kptx", "<11m").text("kz");
        Check.due("knit", piece.knit(0), 1);
        var before = View.of(piece);
        piece.wipe();
        Check.same("what wipe() changed", View.of(piece), before);
        Check.due("place()", piece.place(), 1);
    }
}
