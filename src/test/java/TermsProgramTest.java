/** "Terms": how a row's program moves, transfers and racks. Racks in comments are those that a row goes through. */
public final class TermsProgramTest {
    public static void main(String[] args) {
        Check.sentence("If some other column's goal is not its own number, the columns are MOVED",
            TermsProgramTest::moved);
        Check.sentence("some other column: x has none", TermsProgramTest::notMovedByReleased);
        Check.sentence("First the columns of x are RELEASED", TermsProgramTest::released);
        Check.sentence("those that lie on the front bed are transferred to the back bed, and then all of them to the"
            + " front bed", TermsProgramTest::backAndFront);
        Check.sentence("the back bed being racked by goal - j", TermsProgramTest::racks);
        Check.sentence("first, from the left to the right, all but the LATE ones, then, from the left to the right, the"
            + " late ones", TermsProgramTest::passes);
        Check.sentence("the late ones: the left column of l", TermsProgramTest::lateOfL);
        Check.sentence("the middle one of c", TermsProgramTest::lateOfC);
        Check.sentence("with < the m columns, with > the n columns", TermsProgramTest::lateOfCrossing);
        Check.sentence("Then the columns that must lie on the back bed (those of p, and those of t and m that lay"
            + " there) are transferred there", TermsProgramTest::toTheBack);
        Check.sentence("If they are not moved, just those columns are transferred that do not lie on the bed where they"
            + " must (front for k)", TermsProgramTest::notMoved);
        Check.sentence("Transfers between the same needles are made with the rack 0", TermsProgramTest::sameNeedles);
        Check.sentence("a RACKING is any change of the rack, which is 0 at the beginning of a row and at the end of its"
            + " transfers", TermsProgramTest::rackings);
        Check.sentence("A TRANSFER moves one column's stack", TermsProgramTest::stacks);
        Check.finish();
    }

    private static void due(int columns, String text, int transfers, int rackings) {
        Piece piece = Piece.cast(columns).rows(text);
        Check.due("transfers of " + text, piece.program(1, 0), transfers);
        Check.due("rackings of " + text, piece.program(1, 1), rackings);
    }

    private static void moved() {
        due(4, "kkkk", 0, 0);
        due(4, "kkkko", 0, 0);
        due(4, "kkkok", 8, 2);
        due(4, "okkkk", 8, 2);
        due(4, "kkxk", 6, 2);
        due(4, "xkkk", 6, 2);
        due(16, Piece.times(16, "k"), 0, 0);
        due(16, Piece.times(15, "k") + "x", 0, 0);
        due(16, Piece.times(14, "k") + "r", 32, 2);
    }

    private static void notMovedByReleased() {
        due(4, "kkkx", 0, 0);
        due(4, "kkxx", 0, 0);
        due(4, "xokkk", 0, 0);
        due(4, "oxkkk", 0, 0);
        due(4, "kxxook", 0, 0);
        due(4, "xxxxo", 0, 0);
        due(4, "xxxxoooo", 0, 0);
        due(4, "xoxkk", 4, 2);
    }

    private static void released() {
        Piece piece = Piece.cast(4).rows("xkkk");
        piece.dueProgram(1, 6, 2, 1, 3, 0);
        piece.dueNumbers(1, 3, 7, 1);
        Piece still = Piece.cast(4).rows("pppp", "kkkx");
        still.dueProgram(2, 3, 0, 1, 3, 0);
        Piece all = Piece.cast(3).rows("ppp", "xxxo");
        all.dueProgram(2, 0, 0, 3, 1, 0);
        // The needle of x is free for another column, though its stack had four loops.
        Piece full = Piece.cast(2).rows("tt", "tt", "tt", "xm");
        full.dueProgram(4, 2, 2, 1, 0, 0);
        full.dueStack(0, 1, 2, 5, 6);
    }

    private static void backAndFront() {
        Piece front = Piece.cast(3).rows("kkk", "okkk");
        Check.due("three and three", front.program(2, 0), 6);
        Piece one = Piece.cast(3).rows("kpk", "okkk");
        Check.due("two and three", one.program(2, 0), 5);
        Piece back = Piece.cast(3).rows("ppp", "okkk");
        Check.due("none and three", back.program(2, 0), 3);
        Check.due("to 1 and to 0", back.program(2, 1), 2);
        // Columns whose goals are their own numbers are among all of them.
        Piece still = Piece.cast(3).rows("pkk", "kkok");
        Check.due("two and three", still.program(2, 0), 5);
    }

    private static void racks() {
        // 1 2 3 4 0
        due(4, "okokokok", 8, 5);
        // -1 -2 -3 0
        due(6, "xkxkxk", 6, 4);
        // 1 0 1 0: o and x in turn.
        due(4, "okxkok", 6, 4);
        // 2 -1 0
        due(5, "ookxxxk", 4, 3);
        // 8 0
        due(1, Piece.times(8, "o") + "k", 2, 2);
        // -8 0
        due(9, Piece.times(8, "x") + "k", 2, 2);
        // 4 -4 0
        due(8, "<44", 16, 3);
        // 0 -1 -1 -2 0
        due(4, "rr", 8, 3);
        // 0 -1 0: the second column of r.
        due(2, "r", 4, 2);
    }

    private static void passes() {
        // -1 -2 then 0 -1 then 0; from the right it would be -2 -1 -1 0.
        due(4, "ll", 8, 5);
        // -1 -2 -3 then 0 -1 -2 then 0
        due(6, "lll", 12, 7);
        // 0 -2 -2 -4 then -1 -3 then 0
        due(6, "cc", 12, 5);
    }

    private static void lateOfL() {
        // -1 -2 then 0 -1 then 0; with none late 0 -1 -1 -2 0, as for r.
        due(4, "ll", 8, 5);
        due(4, "rr", 8, 3);
        // 0 -1 -2 then -1 then 0
        due(4, "rl", 8, 4);
        // -1 -1 -2 then 0 then 0
        due(4, "lr", 8, 3);
    }

    private static void lateOfC() {
        // 1 -1 then 0; with none late or the right one it would be 1 0 -1 0.
        due(3, "oc", 6, 3);
        // 1 -1 -2 then 0 -1 then 0; with the left one late it would be 0 -1 -2 then 1 -1 then 0.
        due(5, "ocl", 10, 6);
    }

    private static void lateOfCrossing() {
        // 1 0 -1 then -1 then 0; with the n columns late it would be -1 0 -1 then 1 then 0.
        due(4, "<11r", 8, 4);
        // -1 0 -1 then 1 then 0
        due(4, ">11r", 8, 5);
        // 1 0 then -1 then 0; with none late 1 -1 0.
        due(3, "<11k", 6, 4);
        // -1 0 then 1 then 0
        due(3, ">11k", 6, 4);
        // 3 0 then -1 -1 -1 then 0
        due(5, "<13k", 10, 4);
        // -1 -1 0 then 2 then 0: n is 1 and m is 2.
        due(4, ">12k", 8, 4);
        // 1 1 -1 0 then -2 1 then 0
        due(6, "<21>11k", 12, 6);
        due(16, "<11>11<11>11<11>11<11>11", 32, 16);
    }

    private static void toTheBack() {
        // Moved by one: 5 to the back bed or there already, 5 to the front bed, and those that must to the back bed.
        Piece piece = Piece.cast(5).rows("kkkpp", "oktmtm");
        piece.dueProgram(2, 3 + 5 + 2, 2, 0, 4, 0);
        piece.dueBeds(0, 0, 0, 0, 1, 1);
        Piece purls = Piece.cast(4).rows("kpkp", "oppkk");
        purls.dueProgram(2, 2 + 4 + 2, 2, 0, 5, 0);
        purls.dueBeds(0, 1, 1, 0, 0);
        Piece released = Piece.cast(3).rows("ppp", "xpm");
        released.dueProgram(2, 2 + 2, 2, 1, 1, 0);
    }

    private static void notMoved() {
        String[] stitches = {"k", "p", "t", "m"};
        int[] fromFront = {0, 1, 0, 0};
        int[] fromBack = {1, 0, 0, 0};
        int[] bedFromFront = {0, 1, 0, 0};
        int[] bedFromBack = {0, 1, 1, 1};
        for (int i = 0; i < stitches.length; i++) {
            Piece front = Piece.cast(1).rows("k", stitches[i]);
            Check.due(stitches[i] + " on the front bed", front.program(2, 0), fromFront[i]);
            front.dueBeds(bedFromFront[i]);
            Piece back = Piece.cast(1).rows("p", stitches[i]);
            Check.due(stitches[i] + " on the back bed", back.program(2, 0), fromBack[i]);
            back.dueBeds(bedFromBack[i]);
        }
        Piece mixed = Piece.cast(6).rows("kpkpkp", "kkppmtoo");
        mixed.dueProgram(2, 2, 0, 0, 7, 0);
        Piece none = Piece.cast(2).rows("pk", "xoxo");
        none.dueProgram(2, 0, 0, 2, 2, 0);
    }

    /** Transfers to the back bed before moving and after it do not rack by themselves. */
    private static void sameNeedles() {
        Piece piece = Piece.cast(4).rows("pkpk", "kpkp");
        piece.dueProgram(2, 4, 0, 0, 4, 0);
        // 1 1 1 1 then 0 for the back bed, where it stays.
        Piece moved = Piece.cast(4).rows("kkkk", "opppp");
        moved.dueProgram(2, 12, 2, 0, 5, 0);
    }

    private static void rackings() {
        // 0 at the beginning: the first column of r needs no racking; 0 at the end: one more behind -1.
        due(2, "r", 4, 2);
        // -1 then 0: no racking more at the end.
        due(2, "l", 4, 2);
        // 0 -2 -1 0
        due(3, "c", 6, 3);
        // 1 1 0: the same rack again is no change.
        due(2, "okk", 4, 2);
        // Each row begins with 0 again.
        Piece piece = Piece.cast(1).rows("ok", "xk", "ok");
        for (int row = 1; row <= 3; row++) {
            Check.due("rackings of row " + row, piece.program(row, 1), 2);
        }
    }

    private static void stacks() {
        Piece piece = Piece.cast(2).rows("tk", "tk", "tk", "pk");
        Check.due("one stack of four to the back bed", piece.program(4, 0), 1);
        Piece moved = Piece.cast(2).rows("tt", "tt", "tt", "<11");
        Check.due("two to the back bed and two to the front bed", moved.program(4, 0), 4);
        Piece together = Piece.cast(2).rows("tt", "r");
        Check.due("each column's stack by itself", together.program(2, 0), 4);
    }
}
