/** Promises 2 (write) and 3 (wipe). */
public final class Promise02And03TextTest {
    public static void main(String[] args) {
        ChartKnitter x = Check.cast(3);
        Check.due("write(0)", x.write(0), 0);
        Check.due("bytes 0 are left out", x.write(0x0000006b00006b00L), 2);
        Check.due("the highest byte", x.write(0x7000000000000000L), 3);
        Check.due("the row kkp", x.knit(0), 0);
        Check.due("bed(1)", x.bed(1), 0);
        Check.due("bed(2)", x.bed(2), 1);
        Check.due("knitting empties the text", x.wipe(), 0);

        Check.due("bytes above 127 count", x.write(-1L), 8);
        Check.due("they are characters", x.knit(0), 1);
        Check.due("a fault leaves the text", x.wipe(), 8);
        Check.due("it is empty then", x.wipe(), 0);

        for (int i = 1; i <= 4; i++) {
            Check.due("eight more", x.write(Check.pack("kkkkkkkk")), 8 * i);
        }
        Check.due("39", x.write(Check.pack("kkkkkkk")), 39);
        Check.due("two do not fit", x.write(Check.pack("pp")), -1);
        Check.due("none was added", x.write(0), 39);
        Check.due("40", x.write(Check.pack("p")), 40);
        Check.due("the 41st", x.write(Check.pack("p")), -1);
        Check.due("nothing more still fits", x.write(0), 40);
        Check.due("wipe()", x.wipe(), 40);
        Check.due("write anew", x.write(Check.pack("k")), 1);
        x.castOn(5);
        x.ravel();
        Check.due("casting on and ravelling leave the text", x.wipe(), 1);
        Check.finish();
    }
}
