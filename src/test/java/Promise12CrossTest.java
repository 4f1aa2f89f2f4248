/** Promise 12: cross. */
public final class Promise12CrossTest {
    public static void main(String[] args) {
        ChartKnitter x = Check.cast(6);
        Check.rows(x, "<21>12");
        due(x, 1, pair(0, 2, 1), pair(1, 2, 1), pair(3, 4, 0), pair(3, 5, 0));
        // The columns hold 11 10 9 8 7 6 now.
        Check.rows(x, "tkktkk");
        due(x, 2);
        // 11 12, 13, 14, 8 15, 16, 17.
        Check.rows(x, ">11<22");
        due(x, 3, pair(11, 13, 0), pair(12, 13, 0), pair(14, 16, 1), pair(14, 17, 1),
            pair(8, 16, 1), pair(8, 17, 1), pair(15, 16, 1), pair(15, 17, 1));
        Check.due("earlier rows are kept", x.cross(1, 3), pair(3, 5, 0));
        for (int row : new int[] {0, 4, -1, Integer.MIN_VALUE, Integer.MAX_VALUE}) {
            Check.dueThrow("cross(" + row + ", 0)", IndexOutOfBoundsException.class, () -> x.cross(row, 0));
        }
        for (int j : new int[] {-1, 8, 512, Integer.MIN_VALUE, Integer.MAX_VALUE}) {
            Check.due("cross(3, " + j + ")", x.cross(3, j), -1);
        }
        x.ravel();
        Check.dueThrow("a ravelled row", IndexOutOfBoundsException.class, () -> x.cross(3, 0));
        Check.rows(x, "kkkk>11");
        due(x, 3, pair(16, 17, 0));
        due(x, 1, pair(0, 2, 1), pair(1, 2, 1), pair(3, 4, 0), pair(3, 5, 0));
        mostPairs();
        mostCrossings();
        Check.finish();
    }

    private static void mostPairs() {
        ChartKnitter x = Check.cast(16);
        String tucks = "tttttttttttttttt";
        Check.rows(x, tucks, tucks, tucks, "<44>44");
        Check.due("pairs", x.program(4, 4), 512);
        Check.due("the first", x.cross(4, 0), pair(0, 4, 1));
        Check.due("the last", x.cross(4, 511), pair(52, 48, 0));
        Check.due("none behind", x.cross(4, 512), -1);
    }

    private static void mostCrossings() {
        ChartKnitter x = Check.cast(16);
        for (int row = 1; row <= 17; row++) {
            Check.rows(x, "<11>11<11>11<11>11<11>11");
        }
        Check.rows(x, "mmmmmmmmmmmmmmmm");
        Check.due("eight in row 17", x.program(17, 4), 8);
        Check.due("the last of row 17", x.cross(17, 7) % 2, 0);
        Check.due("none in row 18", x.cross(18, 0), -1);
    }

    private static int pair(int left, int right, int front) {
        return 1024 * left + 2 * right + front;
    }

    private static void due(ChartKnitter x, int row, int... pairs) {
        Check.due("pairs of row " + row, x.program(row, 4), pairs.length);
        for (int j = 0; j <= pairs.length; j++) {
            Check.due("cross(" + row + ", " + j + ")", x.cross(row, j), j < pairs.length ? pairs[j] : -1);
        }
    }
}
