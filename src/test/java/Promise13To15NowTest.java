/** Promises 13 (live), 14 (bed) and 15 (side). */
public final class Promise13To15NowTest {
    private static final int[] WRONG = {-1, 16, 17, Integer.MIN_VALUE, Integer.MAX_VALUE};

    public static void main(String[] args) {
        ChartKnitter x = Check.cast(6);
        Check.rows(x, "kptmxp");
        stack(x, 0, 9);
        stack(x, 1, 8);
        stack(x, 2, 2, 7);
        stack(x, 3, 3);
        stack(x, 4, 6);
        stack(x, 5);
        beds(x, 0, 1, 0, 0, 1);
        Check.rows(x, "otmtmt");
        stack(x, 0, 10);
        stack(x, 1, 9, 11);
        stack(x, 2, 8);
        stack(x, 3, 2, 7, 12);
        stack(x, 4, 3);
        stack(x, 5, 6, 13);
        beds(x, 0, 0, 1, 0, 0, 1);
        Check.rows(x, "xk<21k");
        stack(x, 0, 18);
        stack(x, 1, 17);
        stack(x, 2, 16);
        beds(x, 0, 0, 0, 0, 0);
        for (int wrong : WRONG) {
            Check.due("live(" + wrong + ", 0)", x.live(wrong, 0), -1);
            Check.due("live(0, " + wrong + ")", x.live(0, wrong), -1);
            Check.due("bed(" + wrong + ")", x.bed(wrong), -1);
            Check.due("side(" + wrong + ")", x.side(wrong), -1);
        }
        sides();
        Check.finish();
    }

    private static void sides() {
        ChartKnitter x = Check.cast(1);
        sides(x, 1, -1, -1);
        Check.due("knit", Check.knit(x, "m", 1), 0);
        sides(x, 1, 0, -1);
        Check.due("knit", Check.knit(x, "m", 2), 0);
        sides(x, 1, 0, 1);
        Check.due("a fault", Check.knit(x, "z", 2), 1);
        sides(x, 1, 0, 1);
        Check.due("knit", Check.knit(x, "k", 0), 0);
        sides(x, 0, 0, 1);
        x.ravel();
        x.ravel();
        sides(x, 1, 0, -1);
        Check.due("side(3)", x.side(3), -1);
    }

    private static void sides(ChartKnitter x, int... want) {
        for (int carrier = 0; carrier < 3; carrier++) {
            Check.due("side(" + carrier + ")", x.side(carrier), want[carrier]);
        }
    }

    private static void stack(ChartKnitter x, int column, int... loops) {
        for (int depth = 0; depth < 5; depth++) {
            Check.due("live(" + column + ", " + depth + ")", x.live(column, depth),
                depth < loops.length ? loops[depth] : -1);
        }
    }

    private static void beds(ChartKnitter x, int... beds) {
        for (int column = 0; column <= beds.length; column++) {
            Check.due("bed(" + column + ")", x.bed(column), column < beds.length ? beds[column] : -1);
        }
    }
}
