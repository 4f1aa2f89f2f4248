import java.util.ArrayList;
import java.util.List;

/** Promise 7: ravelling brings back all that can be asked of the cloth. */
public final class Promise07RavelTest {
    private static final String[] ROWS = {
        "kptmkpkk", "<21>12xm", "toktkkpp", "rlcokoo", "pptmxkk", "xomck"
    };

    public static void main(String[] args) {
        ChartKnitter x = Check.cast(8);
        List<String> states = new ArrayList<>();
        int[] carriers = {0, 1, 1, 2, 2, 1};
        for (int i = 0; i < ROWS.length; i++) {
            states.add(state(x));
            int fault = Check.knit(x, ROWS[i], carriers[i]);
            Check.due("knit of " + ROWS[i], fault, 0);
        }
        Check.write(x, "kk");
        for (int i = ROWS.length - 1; i >= 0; i--) {
            Check.due("ravel()", x.ravel(), i);
            boolean same = state(x).equals(states.get(i));
            Check.due("the state before row " + (i + 1) + " is back", same ? 1 : 0, 1);
        }
        Check.due("no row is left", x.ravel(), -1);
        Check.due("and none again", x.ravel(), -1);
        Check.due("the text is as it was", x.wipe(), 2);
        Check.due("carrier 1 made no row", x.side(1), -1);

        // A loop that was dropped in a ravelled row can become a parent instead, and the other way round.
        Check.rows(x, "xkkkkkkk");
        Check.due("dropped", x.loop(0, 4), -2);
        Check.due("parent", x.loop(1, 4), -1);
        x.ravel();
        Check.rows(x, "kxkkkkkk");
        Check.due("parent", x.loop(0, 4), -1);
        Check.due("dropped", x.loop(1, 4), -2);
        Check.due("dropped loops", x.number(3), 1);
        Check.finish();
    }

    private static String state(ChartKnitter x) {
        StringBuilder all = new StringBuilder();
        for (int what = 0; what < 4; what++) {
            all.append(x.number(what)).append(' ');
        }
        for (int column = 0; column < 16; column++) {
            all.append(x.bed(column)).append(':');
            for (int depth = 0; depth < 4; depth++) {
                all.append(x.live(column, depth)).append(' ');
            }
        }
        for (int carrier = 0; carrier < 3; carrier++) {
            all.append(x.side(carrier)).append(' ');
        }
        for (int loop = 0; loop < x.number(2); loop++) {
            for (int what = 0; what < 5; what++) {
                all.append(x.loop(loop, what)).append(' ');
            }
            for (int j = 0; j < 4; j++) {
                all.append(x.parent(loop, j)).append(' ');
            }
        }
        for (int row = 1; row <= x.number(0); row++) {
            for (int what = 0; what < 5; what++) {
                all.append(x.program(row, what)).append(' ');
            }
            for (int j = 0; j <= x.program(row, 4); j++) {
                all.append(x.cross(row, j)).append(' ');
            }
        }
        return all.toString();
    }
}
