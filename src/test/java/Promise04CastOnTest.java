/** Promise 4: castOn. */
public final class Promise04CastOnTest {
    public static void main(String[] args) {
        ChartKnitter x = new ChartKnitter();
        for (int columns : new int[] {0, 17, -1, Integer.MIN_VALUE, Integer.MAX_VALUE}) {
            Check.dueThrow("castOn(" + columns + ")", IllegalArgumentException.class, () -> x.castOn(columns));
        }
        Check.due("nothing is cast on by them", x.number(1), 0);
        x.castOn(16);
        state(x, 16);
        x.castOn(1);
        state(x, 1);

        x.castOn(4);
        Check.due("a row by the carrier 1", Check.knit(x, "xptm", 1), 0);
        Check.due("dropped", x.number(3), 1);
        Check.dueThrow("castOn(17)", IllegalArgumentException.class, () -> x.castOn(17));
        Check.due("a throw changes nothing", x.number(0), 1);
        x.castOn(4);
        state(x, 4);
        Check.finish();
    }

    private static void state(ChartKnitter x, int columns) {
        Check.due("rows", x.number(0), 0);
        Check.due("columns", x.number(1), columns);
        Check.due("loops", x.number(2), columns);
        Check.due("dropped", x.number(3), 0);
        Check.due("side(0)", x.side(0), 1);
        Check.due("side(1)", x.side(1), -1);
        Check.due("side(2)", x.side(2), -1);
        Check.due("ravel()", x.ravel(), -1);
        for (int i = 0; i < columns; i++) {
            Check.due("live", x.live(i, 0), i);
            Check.due("live above", x.live(i, 1), -1);
            Check.due("bed", x.bed(i), 0);
            Check.due("parent", x.parent(i, 0), -1);
            int[] want = {0, i, 0, 0, i};
            for (int what = 0; what < want.length; what++) {
                Check.due("loop(" + i + ", " + what + ")", x.loop(i, what), want[what]);
            }
        }
        Check.due("no column behind", x.bed(columns), -1);
        Check.dueThrow("no loop behind", IndexOutOfBoundsException.class, () -> x.loop(columns, 0));
    }
}
