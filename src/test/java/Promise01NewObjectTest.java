/** Promise 1: nothing is cast on, and the text is empty. */
public final class Promise01NewObjectTest {
    public static void main(String[] args) {
        ChartKnitter x = new ChartKnitter();
        for (int what = 0; what < 4; what++) {
            Check.due("number(" + what + ")", x.number(what), 0);
        }
        Check.due("number(4)", x.number(4), -1);
        Check.due("place()", x.place(), -1);
        Check.due("live(0, 0)", x.live(0, 0), -1);
        Check.due("bed(0)", x.bed(0), -1);
        for (int carrier = -1; carrier <= 3; carrier++) {
            Check.due("side(" + carrier + ")", x.side(carrier), -1);
        }
        Check.due("ravel()", x.ravel(), -1);
        Check.due("wipe()", x.wipe(), 0);
        Check.dueThrow("program(0, 0)", IndexOutOfBoundsException.class, () -> x.program(0, 0));
        Check.dueThrow("program(1, 9)", IndexOutOfBoundsException.class, () -> x.program(1, 9));
        Check.dueThrow("parent(0, 0)", IndexOutOfBoundsException.class, () -> x.parent(0, 0));
        Check.dueThrow("loop(0, 0)", IndexOutOfBoundsException.class, () -> x.loop(0, 0));
        Check.dueThrow("cross(1, 0)", IndexOutOfBoundsException.class, () -> x.cross(1, 0));
        Check.dueThrow("knit(0)", IllegalStateException.class, () -> x.knit(0));
        Check.dueThrow("knit(3)", IllegalStateException.class, () -> x.knit(3));
        Check.finish();
    }
}
