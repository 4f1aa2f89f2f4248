/** Promise 2: write. */
public final class Promise02WriteTest {
    public static void main(String[] args) {
        Check.sentence("The characters in the eight bytes of a long, the lowest first",
            Promise02WriteTest::lowestFirst);
        Check.sentence("the eight bytes: those above 127 are characters too", Promise02WriteTest::highBytes);
        Check.sentence("come behind the text", Promise02WriteTest::behindTheText);
        Check.sentence("bytes 0 left out", Promise02WriteTest::zerosLeftOut);
        Check.sentence("Answers how many characters it has then", Promise02WriteTest::answers);
        Check.sentence("NONE .. when there would be more than 40", Promise02WriteTest::moreThanForty);
        Check.sentence("NONE, adding none", Promise02WriteTest::addingNone);
        Check.finish();
    }

    private static void lowestFirst() {
        Piece piece = Piece.cast(8);
        Check.due("write", piece.write(0x706b70706b6b706bL), 8);
        Check.due("knit", piece.knit(0), 0);
        piece.dueBeds(0, 1, 0, 0, 1, 1, 0, 1);
        for (int i = 0; i < 8; i++) {
            Piece wrong = Piece.cast(8);
            long all = Check.pack("kkkkkkkk");
            wrong.write(all ^ (long) ('k' ^ 'z') << (8 * i));
            Check.due("a wrong character in byte " + i, wrong.knit(0), 1);
            Check.due("its place", wrong.place(), i);
        }
    }

    private static void highBytes() {
        Check.due("eight bytes 255", new Piece().write(-1L), 8);
        Check.due("the highest byte 128", new Piece().write(Long.MIN_VALUE), 1);
        Check.due("the highest byte 127", new Piece().write(0x7f00000000000000L), 1);
        Check.due("the lowest byte 128", new Piece().write(0x80L), 1);
        Check.due("the lowest byte 255", new Piece().write(0xffL), 1);
        Check.due("the next byte 1", new Piece().write(0x100L), 1);
        Piece piece = Piece.cast(1);
        piece.write("k");
        piece.write(Long.MIN_VALUE);
        piece.fault("k" + (char) 0x80, 0, 1, 1);
        piece.fault("k" + (char) ('k' + 0x80), 0, 1, 1);
    }

    private static void behindTheText() {
        Piece piece = Piece.cast(5);
        Check.due("write", piece.write("kp"), 2);
        Check.due("write", piece.write("p"), 3);
        Check.due("write", piece.write("kp"), 5);
        Check.due("knit", piece.knit(0), 0);
        piece.dueBeds(0, 1, 1, 0, 1);
    }

    private static void zerosLeftOut() {
        for (int mask = 0; mask < 256; mask++) {
            long characters = 0;
            for (int i = 0; i < 8; i++) {
                characters |= (long) ((mask >> i & 1) * 'k') << (8 * i);
            }
            Piece piece = new Piece();
            Check.due("write(" + characters + ")", piece.write(characters), Integer.bitCount(mask));
            Check.due("wipe()", piece.wipe(), Integer.bitCount(mask));
        }
        Piece piece = Piece.cast(3);
        Check.due("write", piece.write(0x70000000006b7000L), 3);
        Check.due("knit", piece.knit(0), 0);
        piece.dueBeds(1, 0, 1);
    }

    private static void answers() {
        Piece piece = new Piece();
        for (int i = 1; i <= 5; i++) {
            Check.due("eight more", piece.write("kkkkkkkk"), 8 * i);
        }
        Piece single = new Piece();
        for (int i = 1; i <= 40; i++) {
            Check.due("one more", single.write("k"), i);
            Check.due("none more", single.write(0), i);
        }
    }

    private static void moreThanForty() {
        for (int had = 32; had <= 40; had++) {
            for (int more = 0; more <= 8; more++) {
                Piece piece = new Piece();
                piece.write(Piece.times(had, "k"));
                int want = had + more <= 40 ? had + more : -1;
                Check.due(more + " behind " + had, piece.write(Check.pack(Piece.times(more, "p"))), want);
                Check.due("characters then", piece.wipe(), want == -1 ? had : want);
            }
        }
        Piece full = new Piece();
        full.write(Piece.times(40, "k"));
        Check.due("zeros between", full.write(0x0000006b00000000L), -1);
        Check.due("zeros alone", full.write(0), 40);
        Check.due("eight bytes 255", full.write(-1L), -1);
    }

    private static void addingNone() {
        Piece piece = Piece.cast(1);
        piece.write(Piece.times(39, "k"));
        var before = View.deep(piece);
        Check.due("two behind 39", piece.write("kz"), -1);
        Check.same("what it changed", View.deep(piece), before);
        Check.due("the 40th", piece.write("k"), 40);
        Check.due("no wrong character is there", piece.knit(0), 2);
        Check.due("the 41st", piece.write("z"), -1);
        Check.due("no wrong character is there", piece.knit(0), 2);
        Check.due("wipe()", piece.wipe(), 40);
        Check.due("room again", piece.write("p"), 1);
        Check.due("knit", piece.knit(0), 0);
        piece.dueBeds(1);
    }
}
