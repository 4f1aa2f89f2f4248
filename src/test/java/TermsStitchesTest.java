/** "Terms": what each stitch takes and gives, and what it does. */
public final class TermsStitchesTest {
    public static void main(String[] args) {
        Check.sentence("k, p: take one and give one", () -> takesAndGives("kp", 1, 1));
        Check.sentence("o: takes none, gives one", () -> takesAndGives("o", 0, 1));
        Check.sentence("l, r: take two, give one", () -> takesAndGives("lr", 2, 1));
        Check.sentence("c: takes three, gives one", () -> takesAndGives("c", 3, 1));
        Check.sentence("t, m: take one and give one", () -> takesAndGives("tm", 1, 1));
        Check.sentence("x: takes one and gives none", () -> takesAndGives("x", 1, 0));
        Check.sentence("n and m being digits 1 .. 4", TermsStitchesTest::digits);
        Check.sentence("< n m and > n m .. take n + m and give as many", TermsStitchesTest::crossingTakes);
        Check.sentence("the n columns on the left come behind the m on the right, in their order",
            TermsStitchesTest::crossingOrder);
        Check.sentence("A column with its stitch is knitted as with k then", TermsStitchesTest::crossingKnits);
        Check.sentence("TAKES columns of the row below, from the left to the right", TermsStitchesTest::leftToRight);
        Check.sentence("k .. make a loop .. on the front bed, p one on the back bed", TermsStitchesTest::knitAndPurl);
        Check.sentence("for r those of the left column, then of the right one", TermsStitchesTest::rightLeaning);
        Check.sentence("for l of the right one, then of the left one", TermsStitchesTest::leftLeaning);
        Check.sentence("for c of the left, the right, then the middle one", TermsStitchesTest::centred);
        Check.sentence("it alone is the stack then", TermsStitchesTest::aloneInStack);
        Check.sentence("o makes one on the front bed, without parents", TermsStitchesTest::yarnOver);
        Check.sentence("t makes a loop without parents, on the bed where the column lies, which comes on top of the"
            + " stack taken", TermsStitchesTest::tuck);
        Check.sentence("m gives the stack as it is", TermsStitchesTest::miss);
        Check.sentence("The loops that x takes are DROPPED", TermsStitchesTest::drop);
        Check.sentence("With < the loops of the n columns CROSS those of the m columns in front of them, with > behind"
            + " them", TermsStitchesTest::crossing);
        Check.finish();
    }

    /** Behind a k, so that a row is never without a column; with too few, just as many and too many columns. */
    private static void takesAndGives(String signs, int takes, int gives) {
        for (int i = 0; i < signs.length(); i++) {
            String text = "k" + signs.charAt(i);
            for (int columns = 1; columns <= 6; columns++) {
                Piece piece = Piece.cast(columns);
                if (columns == 1 + takes) {
                    piece.rows(text);
                    Check.due("columns after " + text, piece.number(1), 1 + gives);
                } else {
                    piece.fault(text, 0, 2, -1);
                    Check.due("columns after " + text, piece.number(1), columns);
                }
            }
        }
    }

    /** Every character but 0, which is none, in the place of each of both digits. */
    private static void digits() {
        for (char character = 1; character < 256; character++) {
            boolean digit = character >= '1' && character <= '4';
            int columns = digit ? 1 + character - '0' : 2;
            for (String sign : new String[] {"<", ">"}) {
                Piece first = Piece.cast(columns).text(sign + character + "1");
                Check.due("fault of " + sign + character + "1", first.knit(0), digit ? 0 : 1);
                Check.due("place", first.place(), digit ? -1 : 1);
                Piece second = Piece.cast(columns).text(sign + "1" + character);
                Check.due("fault of " + sign + "1" + character, second.knit(0), digit ? 0 : 1);
                Check.due("place", second.place(), digit ? -1 : 2);
            }
        }
    }

    private static void crossingTakes() {
        for (int n = 1; n <= 4; n++) {
            for (int m = 1; m <= 4; m++) {
                for (String sign : new String[] {"<", ">"}) {
                    String text = sign + n + m;
                    Piece.cast(n + m - 1).fault(text, 0, 2, -1);
                    Piece.cast(n + m + 1).fault(text, 0, 2, -1);
                    Piece piece = Piece.cast(n + m).rows(text);
                    piece.dueNumbers(1, n + m, 2 * (n + m), 0);
                }
            }
        }
    }

    private static void crossingOrder() {
        for (int n = 1; n <= 4; n++) {
            for (int m = 1; m <= 4; m++) {
                for (String sign : new String[] {"<", ">"}) {
                    Piece piece = Piece.cast(n + m + 1).rows("k" + sign + n + m);
                    for (int column = 1; column <= n + m; column++) {
                        int from = column <= m ? column + n : column - m;
                        piece.dueParents(piece.live(column, 0), from);
                    }
                    piece.dueParents(piece.live(0, 0), 0);
                }
            }
        }
    }

    private static void crossingKnits() {
        Piece piece = Piece.cast(4).rows("ptpk", "mmtm");
        // The stacks are 0's purl 7; 1 6; 5 8; 4.
        piece.rows("<22");
        piece.dueBeds(0, 0, 0, 0);
        piece.dueStack(0, 12);
        piece.dueStack(1, 11);
        piece.dueStack(2, 10);
        piece.dueStack(3, 9);
        piece.dueParents(12, 5, 8);
        piece.dueParents(11, 4);
        piece.dueParents(10, 7);
        piece.dueParents(9, 1, 6);
        Check.due("loops made", piece.program(3, 3), 4);
    }

    private static void leftToRight() {
        Piece piece = Piece.cast(16).rows("klxrc<11>11optm");
        piece.dueNumbers(1, 12, 27, 1);
        Check.due("x takes column 3", piece.loop(3, 4), -2);
        int[][] parents = {{}, {13}, {}, {11}, {12}, {9}, {10}, {6, 8, 7}, {4, 5}, {2, 1}, {0}};
        for (int i = 0; i < parents.length; i++) {
            piece.dueParents(16 + i, parents[i]);
        }
        piece.dueStack(10, 14, 16);
        piece.dueStack(11, 15);
    }

    private static void knitAndPurl() {
        Piece piece = Piece.cast(4).rows("kpkp", "kppk", "kkpp");
        piece.dueLoop(4, 1, 3, 1, 0, -1);
        piece.dueLoop(5, 1, 2, 0, 0, -1);
        piece.dueLoop(8, 2, 0, 0, 0, -1);
        piece.dueLoop(9, 2, 1, 1, 0, -1);
        piece.dueLoop(10, 2, 2, 1, 0, -1);
        piece.dueLoop(11, 2, 3, 0, 0, -1);
        piece.dueBeds(0, 0, 1, 1);
        piece.dueParents(8, 7);
        piece.dueParents(9, 6);
        piece.dueParents(10, 5);
        piece.dueParents(11, 4);
        Piece decreases = Piece.cast(7).rows("ppppppp", "rlc");
        decreases.dueBeds(0, 0, 0);
    }

    private static void rightLeaning() {
        Piece plain = Piece.cast(2).rows("r");
        plain.dueParents(2, 0, 1);
        Piece left = Piece.cast(2).rows("tm", "tm", "r");
        left.dueParents(4, 0, 2, 3, 1);
        Piece right = Piece.cast(2).rows("mt", "mt", "r");
        right.dueParents(4, 0, 1, 2, 3);
        Piece both = Piece.cast(2).rows("tt", "r");
        both.dueParents(4, 0, 3, 1, 2);
    }

    private static void leftLeaning() {
        Piece plain = Piece.cast(2).rows("l");
        plain.dueParents(2, 1, 0);
        Piece left = Piece.cast(2).rows("tm", "tm", "l");
        left.dueParents(4, 1, 0, 2, 3);
        Piece right = Piece.cast(2).rows("mt", "mt", "l");
        right.dueParents(4, 1, 2, 3, 0);
        Piece both = Piece.cast(2).rows("tt", "l");
        both.dueParents(4, 1, 2, 0, 3);
    }

    private static void centred() {
        Piece.cast(3).rows("c").dueParents(3, 0, 2, 1);
        Piece.cast(3).rows("tmm", "c").dueParents(4, 0, 3, 2, 1);
        Piece.cast(3).rows("mtm", "c").dueParents(4, 0, 2, 1, 3);
        Piece.cast(3).rows("mmt", "c").dueParents(4, 0, 2, 3, 1);
    }

    private static void aloneInStack() {
        for (String row : new String[] {"kk", "pk", "r", "l"}) {
            Piece piece = Piece.cast(2).rows("tm", "tm");
            piece.rows(row);
            piece.dueStack(0, piece.number(2) - 1);
        }
        Piece centre = Piece.cast(3).rows("mtm", "c");
        centre.dueStack(0, 4);
        Piece cross = Piece.cast(2).rows("tt", "tt", ">11");
        cross.dueStack(0, 7);
        cross.dueStack(1, 6);
    }

    private static void yarnOver() {
        Piece piece = Piece.cast(2).rows("pp", "opopo");
        piece.dueBeds(0, 1, 0, 1, 0);
        for (int loop : new int[] {4, 6, 8}) {
            piece.dueParents(loop);
            piece.dueLoop(loop, 2, loop - 4, 0, 0, loop - 4);
            piece.dueStack(loop - 4, loop);
        }
    }

    private static void tuck() {
        Piece piece = Piece.cast(2).rows("kp", "tt");
        piece.dueStack(0, 3, 4);
        piece.dueStack(1, 2, 5);
        piece.dueLoop(4, 2, 0, 0, 0, 0);
        piece.dueLoop(5, 2, 1, 1, 0, 1);
        piece.dueParents(4);
        piece.dueParents(5);
        piece.dueBeds(0, 1);
        // Columns that move on keep their beds.
        piece.rows("ott");
        piece.dueBeds(0, 0, 1);
        piece.dueStack(1, 3, 4, 7);
        piece.dueStack(2, 2, 5, 6);
        piece.dueLoop(6, 3, 2, 1, 0, 2);
        piece.dueLoop(7, 3, 1, 0, 0, 1);
        piece.dueParents(2, 1);
    }

    private static void miss() {
        Piece piece = Piece.cast(2).rows("kp", "tt", "mm");
        piece.dueNumbers(3, 2, 6, 0);
        piece.dueStack(0, 3, 4);
        piece.dueStack(1, 2, 5);
        piece.dueBeds(0, 1);
        piece.rows("omm");
        piece.dueStack(1, 3, 4);
        piece.dueStack(2, 2, 5);
        piece.dueBeds(0, 0, 1);
        Check.due("loops made", piece.program(4, 3), 1);
        piece.rows("xmm", "tt", "tm", "mm");
        piece.dueStack(0, 3, 4, 7, 9);
        piece.dueStack(1, 2, 5, 8);
        piece.dueBeds(0, 1);
    }

    private static void drop() {
        Piece piece = Piece.cast(4).rows("ktmp", "xxmm");
        piece.dueNumbers(2, 2, 7, 3);
        int[] where = {-1, -2, 0, -1, 1, -2, -2};
        for (int loop = 0; loop < where.length; loop++) {
            Check.due("loop(" + loop + ", 4)", piece.loop(loop, 4), where[loop]);
        }
        piece.rows("xk");
        Check.due("dropped", piece.number(3), 4);
        Check.due("released", piece.program(3, 2), 1);
    }

    private static void crossing() {
        Piece.cast(3).rows("<21").dueCrossed(1, 1024 * 0 + 2 * 2 + 1, 1024 * 1 + 2 * 2 + 1);
        Piece.cast(3).rows(">21").dueCrossed(1, 1024 * 0 + 2 * 2, 1024 * 1 + 2 * 2);
        Piece.cast(3).rows("<12").dueCrossed(1, 1024 * 0 + 2 * 1 + 1, 1024 * 0 + 2 * 2 + 1);
        Piece.cast(3).rows(">12").dueCrossed(1, 1024 * 0 + 2 * 1, 1024 * 0 + 2 * 2);
        for (String row : new String[] {"kkk", "ppp", "tmt", "c", "lk", "kr", "xkk", "okkk"}) {
            Piece.cast(3).rows(row).dueCrossed(1);
        }
    }
}
