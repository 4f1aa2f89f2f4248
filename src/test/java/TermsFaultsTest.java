/** "Terms": the faults 1 to 8 with their places, of which the first that there is is told. */
public final class TermsFaultsTest {
    public static void main(String[] args) {
        Check.sentence("1 the first character that cannot stand there", TermsFaultsTest::wrongCharacter);
        Check.sentence("1: every character", TermsFaultsTest::everyCharacter);
        Check.sentence("a row that ends within < or >: the place behind its last character",
            TermsFaultsTest::endsWithin);
        Check.sentence("so for a row without characters", TermsFaultsTest::noCharacters);
        Check.sentence("2 the stitches do not take just the columns that there are", TermsFaultsTest::taken);
        Check.sentence("3 they give none", TermsFaultsTest::givesNone);
        Check.sentence("3 .. or more than 16", TermsFaultsTest::givesTooMany);
        Check.sentence("4 the first stitch which would bring more than four loops on one needle: t",
            TermsFaultsTest::overfullByT);
        Check.sentence("4: r, l and c", TermsFaultsTest::overfullByDecreases);
        Check.sentence("4: four loops stay where they are alone on their needle", TermsFaultsTest::fourAlone);
        Check.sentence("4: the first stitch .., at its character", TermsFaultsTest::firstOverfull);
        Check.sentence("5 .. whose goal is more than 8 from it", TermsFaultsTest::tooFar);
        Check.sentence("5 the first column, from the left, .. at the character of its stitch",
            TermsFaultsTest::firstTooFar);
        Check.sentence("6 the carrier rests on the side to which the row goes", TermsFaultsTest::carrier);
        Check.sentence("7 it would be row 21", TermsFaultsTest::rows);
        Check.sentence("8 there would be more than 300 loops", TermsFaultsTest::loops);
        Check.sentence("of which the first that there is is told: before row 21", TermsFaultsTest::firstBeforeRow21);
        Check.sentence("of which the first that there is is told: 6 before 8", TermsFaultsTest::carrierBeforeLoops);
        Check.finish();
    }

    private static void wrongCharacter() {
        Piece piece = Piece.cast(2);
        piece.fault("z", 0, 1, 0);
        piece.fault("kz", 0, 1, 1);
        piece.fault("kkz", 0, 1, 2);
        piece.fault("zkz", 0, 1, 0);
        piece.fault("kK", 0, 1, 1);
        piece.fault("1", 0, 1, 0);
        piece.fault("k1k", 0, 1, 1);
        piece.fault("<111", 0, 1, 3);
        piece.fault("<11 ", 0, 1, 3);
        piece.fault("<<11", 0, 1, 1);
        piece.fault("<1<1", 0, 1, 2);
        piece.fault(">k1", 0, 1, 1);
        piece.fault(">1k", 0, 1, 2);
        piece.fault("<05", 0, 1, 1);
        piece.fault("<15", 0, 1, 2);
        piece.fault("<10", 0, 1, 2);
        piece.fault("<51", 0, 1, 1);
        piece.fault(Piece.times(39, "k") + "z", 0, 1, 39);
        piece.fault(Piece.times(13, ">44") + "?", 0, 1, 39);
        piece.rows("<11");
    }

    /** Alone in a row of one column: what can stand there is told by another fault, or by none. */
    private static void everyCharacter() {
        String signs = "kptmxolrc<>";
        int[] faults = {0, 0, 0, 0, 3, 2, 2, 2, 2, 1, 1};
        for (char character = 1; character < 256; character++) {
            int sign = signs.indexOf(character);
            Piece piece = Piece.cast(1).text("" + character);
            Check.due("fault of the character " + (int) character, piece.knit(0), sign < 0 ? 1 : faults[sign]);
            boolean crossing = character == '<' || character == '>';
            Check.due("its place", piece.place(), sign < 0 ? 0 : crossing ? 1 : -1);
        }
    }

    private static void endsWithin() {
        Piece piece = Piece.cast(2);
        piece.fault("<", 0, 1, 1);
        piece.fault(">", 0, 1, 1);
        piece.fault("<1", 0, 1, 2);
        piece.fault(">4", 0, 1, 2);
        piece.fault("kk<", 0, 1, 3);
        piece.fault("k>2", 0, 1, 3);
        piece.fault("<11>", 0, 1, 4);
        piece.fault(Piece.times(39, "k") + "<", 0, 1, 40);
        piece.fault(Piece.times(38, "k") + ">1", 0, 1, 40);
        piece.fault(Piece.times(37, "k") + ">11", 0, 2, -1);
        piece.rows(">11");
    }

    private static void noCharacters() {
        Piece piece = Piece.cast(1);
        piece.fault("", 0, 1, 0);
        piece.fault("", 2, 1, 0);
        piece.rows("k");
        piece.fault("", 0, 1, 0);
        piece.rows("m");
    }

    private static void taken() {
        for (int columns = 1; columns <= 16; columns++) {
            Piece piece = Piece.cast(columns);
            piece.fault(Piece.times(columns - 1, "k") + "o", 0, 2, -1);
            piece.fault(Piece.times(columns + 1, "k"), 0, 2, -1);
            piece.rows(Piece.times(columns, "k"));
        }
        Piece piece = Piece.cast(3);
        piece.fault("o", 0, 2, -1);
        piece.fault("l", 0, 2, -1);
        piece.fault("xx", 0, 2, -1);
        piece.fault("<22", 0, 2, -1);
        piece.fault("ck", 0, 2, -1);
        piece.fault(Piece.times(40, "k"), 0, 2, -1);
        piece.fault(Piece.times(13, "<44"), 0, 2, -1);
        piece.fault(Piece.times(40, "c"), 0, 2, -1);
        piece.fault(Piece.times(40, "x"), 0, 2, -1);
        piece.rows("c");
    }

    private static void givesNone() {
        Piece one = Piece.cast(1);
        one.fault("x", 0, 3, -1);
        one.rows("xo");
        Piece many = Piece.cast(16);
        many.fault(Piece.times(16, "x"), 0, 3, -1);
        many.rows(Piece.times(16, "x") + "o");
        Check.due("columns", many.number(1), 1);
    }

    private static void givesTooMany() {
        Piece piece = Piece.cast(16);
        piece.fault(Piece.times(16, "k") + "o", 0, 3, -1);
        piece.fault(Piece.times(16, "x") + Piece.times(17, "o"), 0, 3, -1);
        piece.rows(Piece.times(16, "x") + Piece.times(16, "o"));
        piece.rows(Piece.times(15, "k") + "xo");
        Check.due("columns", piece.number(1), 16);
        Piece narrow = Piece.cast(1);
        narrow.fault("k" + Piece.times(16, "o"), 0, 3, -1);
        narrow.fault("k" + Piece.times(39, "o"), 0, 3, -1);
        narrow.rows("k" + Piece.times(15, "o"));
        Check.due("columns", narrow.number(1), 16);
    }

    private static void overfullByT() {
        Piece piece = Piece.cast(1).rows("t", "t");
        piece.dueStack(0, 0, 1, 2);
        piece.rows("t");
        piece.dueStack(0, 0, 1, 2, 3);
        piece.fault("t", 0, 4, 0);
        piece.fault("ot", 0, 4, 1);
        piece.rows("p", "t", "t", "t");
        piece.fault("t", 0, 4, 0);
    }

    /** Columns with stacks of so many loops, after three rows. */
    private static Piece stacks(int... sizes) {
        Piece piece = Piece.cast(sizes.length);
        for (int size = 2; size <= 4; size++) {
            StringBuilder text = new StringBuilder();
            for (int i = 0; i < sizes.length; i++) {
                text.append(sizes[i] >= size ? 't' : 'm');
            }
            piece.rows(text.toString());
        }
        return piece;
    }

    private static void overfullByDecreases() {
        for (int left = 1; left <= 4; left++) {
            for (int right = 1; right <= 4; right++) {
                for (String sign : new String[] {"l", "r"}) {
                    fits(stacks(left, right), sign, left + right);
                }
                for (int middle = 1; middle <= 4; middle++) {
                    fits(stacks(left, middle, right), "c", left + middle + right);
                }
            }
        }
    }

    private static void fits(Piece piece, String sign, int loops) {
        if (loops <= 4) {
            piece.rows(sign);
            Check.due("parents", piece.parent(piece.live(0, 0), loops - 1) >= 0 ? 1 : 0, 1);
            Check.due("no more", piece.parent(piece.live(0, 0), loops), -1);
        } else {
            piece.fault(sign, 0, 4, 0);
        }
    }

    private static void fourAlone() {
        for (String text : new String[] {"kk", "pp", "mm", "<11", ">11", "xk", "kx", "omm", "mom"}) {
            stacks(4, 4).rows(text);
        }
        stacks(4, 4, 4, 4, 4, 4, 4, 4).rows("<44");
        stacks(4, 3).rows("mt");
    }

    private static void firstOverfull() {
        // The next row has an even number, so that it goes as its text does.
        Piece piece = stacks(4, 1, 4, 4);
        piece.fault("tktt", 0, 4, 0);
        piece.fault("kktt", 0, 4, 2);
        piece.fault("kmkt", 0, 4, 3);
        piece.fault("krk", 0, 4, 1);
        piece.fault("kkr", 0, 4, 2);
        piece.fault("kkl", 0, 4, 2);
        piece.fault("kc", 0, 4, 1);
        piece.fault("ck", 0, 4, 0);
        piece.fault("lr", 0, 4, 0);
        piece.fault("<11kt", 0, 4, 4);
        piece.fault("o>11ol", 0, 4, 5);
        piece.fault("xxxt", 0, 4, 3);
        piece.rows("mtkk");
        // The row below has an even number now: the first stitch is that of the text, not the one that is made first.
        Piece odd = stacks(4, 1, 4, 4).rows("mmmm");
        odd.fault("tktt", 0, 4, 0);
        odd.fault("kktt", 0, 4, 2);
        odd.fault("lr", 0, 4, 0);
        odd.fault("rl", 0, 4, 0);
        odd.rows("mtkk");
    }

    private static void tooFar() {
        Piece right = Piece.cast(1);
        right.fault(Piece.times(9, "o") + "k", 0, 5, 9);
        right.fault(Piece.times(15, "o") + "m", 0, 5, 15);
        right.rows(Piece.times(8, "o") + "k");
        Piece left = Piece.cast(10);
        left.fault(Piece.times(9, "x") + "k", 0, 5, 9);
        left.rows(Piece.times(9, "x") + "ok");
        Piece wide = Piece.cast(16);
        wide.fault(Piece.times(9, "x") + Piece.times(7, "k"), 0, 5, 9);
        wide.fault(Piece.times(15, "x") + "t", 0, 5, 15);
        // Column 13 is 9 from its goal.
        wide.fault("ccccck", 0, 5, 4);
        wide.again().rows("cccckkkk");
        wide.again().rows(Piece.times(8, "x") + Piece.times(8, "p"));
        // x has no goal, however far the columns behind it may be.
        wide.rows(Piece.times(16, "x") + "o");
        Piece fourteen = Piece.cast(14);
        fourteen.fault("ccccr", 0, 5, 4);
        fourteen.fault("ccccl", 0, 5, 4);
        fourteen.rows("cccckk");
    }

    private static void firstTooFar() {
        Piece three = Piece.cast(3);
        three.fault("k" + Piece.times(9, "o") + "pk", 0, 5, 10);
        three.fault("kk" + Piece.times(9, "o") + "k", 0, 5, 11);
        three.fault("<11" + Piece.times(9, "o") + "k", 0, 5, 12);
        three.fault(Piece.times(9, "o") + "c", 0, 5, 9);
        three.rows("<11" + Piece.times(8, "o") + "k");
        // With a crossing the column that is too far may be the left one or the right one.
        Piece two = Piece.cast(2);
        two.fault(Piece.times(8, "o") + ">11", 0, 5, 8);
        two.fault(Piece.times(8, "o") + "<11", 0, 5, 8);
        two.rows(Piece.times(7, "o") + ">11");
        Piece eleven = Piece.cast(11);
        eleven.fault(Piece.times(8, "x") + "<12", 0, 5, 8);
        eleven.rows(Piece.times(7, "x") + "<12k");
    }

    private static void carrier() {
        for (int carrier = 0; carrier < 3; carrier++) {
            // One that made no row yet, so not 0.
            int other = carrier == 1 ? 2 : 1;
            Piece odd = Piece.cast(1).rowsBy(carrier, "k").rowsBy(other, "k");
            odd.fault("k", carrier, 6, -1);
            odd.rowsBy(other, "k").rowsBy(carrier, "k");
        }
        Piece castOn = Piece.cast(1).rowsBy(2, "k");
        castOn.fault("k", 0, 6, -1);
        castOn.rowsBy(2, "k").rowsBy(0, "k");
        Piece even = Piece.cast(1).rowsBy(0, "k").rowsBy(1, "k").rowsBy(2, "k");
        even.fault("k", 1, 6, -1);
        even.again().rowsBy(0, "k");
        even.rowsBy(2, "k").rowsBy(1, "k");
    }

    private static void rows() {
        Piece piece = Piece.cast(1);
        for (int row = 1; row <= 20; row++) {
            piece.rows("k");
        }
        for (String text : new String[] {"k", "m", "xo"}) {
            piece.fault(text, 0, 7, -1);
            piece.fault(text, 1, 7, -1);
        }
        Check.due("ravel()", piece.ravel(), 19);
        piece.rows("m");
        piece.fault("m", 0, 7, -1);
    }

    /** 296 loops after 18 rows: four more of any kind can be made, five cannot. */
    private static void loops() {
        Piece piece = Piece.cast(16);
        for (int row = 1; row <= 17; row++) {
            piece.rows(Piece.times(16, "k"));
        }
        piece.rows(Piece.times(8, "k") + Piece.times(8, "m"));
        Check.due("loops", piece.number(2), 296);
        for (String sign : new String[] {"k", "p", "t"}) {
            piece.again().rows(Piece.times(4, sign) + Piece.times(12, "m"));
            piece.fault(Piece.times(5, sign) + Piece.times(11, "m"), 0, 8, -1);
        }
        for (String sign : new String[] {"l", "r"}) {
            piece.again().rows(Piece.times(4, sign) + Piece.times(8, "m"));
            piece.fault(Piece.times(5, sign) + Piece.times(6, "m"), 0, 8, -1);
        }
        piece.again().rows("xxxxoooo" + Piece.times(12, "m"));
        piece.fault("xxxxxooooo" + Piece.times(11, "m"), 0, 8, -1);
        piece.again().rows("<22" + Piece.times(12, "m"));
        piece.fault("<23" + Piece.times(11, "m"), 0, 8, -1);
        piece.again().rows(">31" + Piece.times(12, "x"));
        piece.fault(">41" + Piece.times(11, "x"), 0, 8, -1);
        piece.again().rows("cccc" + Piece.times(4, "m"));
        piece.fault("cccctmmm", 0, 8, -1);
        piece.rows(Piece.times(16, "m"));
    }

    /** 20 rows, 300 loops, and the columns 0 to 3 have four loops each; the carrier 1 rests on the left. */
    private static Piece full() {
        Piece piece = Piece.cast(16).rowsBy(1, Piece.times(16, "k"));
        for (int row = 2; row <= 20; row++) {
            piece.rowsBy(2, row <= 17 ? Piece.times(16, "k") : "tttt" + Piece.times(12, "m"));
        }
        piece.dueNumbers(20, 16, 300, 0);
        piece.dueSides(1, 0, 1);
        return piece;
    }

    /** Each text has its own fault and as many of those behind it as it can; 6 comes with the carrier 1; 7 and 8. */
    private static void firstBeforeRow21() {
        Piece piece = full();
        for (int carrier = 0; carrier < 3; carrier++) {
            piece.fault(Piece.times(17, "o") + "tz", carrier, 1, 18);
            piece.fault("", carrier, 1, 0);
            piece.fault(Piece.times(17, "o") + Piece.times(15, "t"), carrier, 2, -1);
            piece.fault(Piece.times(15, "x"), carrier, 2, -1);
            piece.fault(Piece.times(9, "o") + "t" + Piece.times(15, "k"), carrier, 3, -1);
            piece.fault(Piece.times(16, "x"), carrier, 3, -1);
            piece.fault(Piece.times(9, "o") + "kt" + Piece.times(9, "x") + "kkkkk", carrier, 4, 10);
            piece.fault(Piece.times(9, "o") + Piece.times(7, "k") + Piece.times(9, "x"), carrier, 5, 9);
            piece.fault(Piece.times(16, "k"), carrier, carrier == 1 ? 6 : 7, -1);
            piece.fault(Piece.times(16, "m"), carrier, carrier == 1 ? 6 : 7, -1);
        }
    }

    private static void carrierBeforeLoops() {
        Piece piece = Piece.cast(16);
        for (int row = 1; row <= 16; row++) {
            piece.rows(Piece.times(16, "k"));
        }
        piece.rowsBy(1, Piece.times(16, "k")).rowsBy(2, Piece.times(12, "k") + "mmmm");
        piece.dueNumbers(18, 16, 300, 0);
        for (int carrier = 0; carrier < 3; carrier++) {
            piece.fault("k<", carrier, 1, 2);
            piece.fault("k", carrier, 2, -1);
            piece.fault(Piece.times(16, "k") + "o", carrier, 3, -1);
            piece.fault(Piece.times(9, "o") + Piece.times(7, "k") + Piece.times(9, "x"), carrier, 5, 9);
            piece.fault(Piece.times(16, "k"), carrier, carrier == 1 ? 6 : 8, -1);
        }
        piece.fault(Piece.times(16, "m"), 1, 6, -1);
        piece.rowsBy(2, Piece.times(16, "m"));
    }
}
