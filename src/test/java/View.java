import java.util.ArrayList;
import java.util.List;
import java.util.function.ToIntFunction;

/** All that can be asked of a piece, as lines of calls with their answers; others just like the piece are asked. */
final class View {
    private final Piece piece;
    private final String behind;
    private final List<String> lines = new ArrayList<>();
    private Piece copy;

    private View(Piece piece, String behind) {
        this.piece = piece;
        this.behind = behind;
        this.copy = piece.again();
    }

    /** The cloth, its rows, its loops and the carriers; neither the text nor the place. */
    static List<String> of(Piece piece) {
        return of(piece, "");
    }

    /** The same with the text, and with what would become of all by ravelling and by knitting the text. */
    static List<String> deep(Piece piece) {
        List<String> all = new ArrayList<>(of(piece));
        View next = new View(piece, "");
        next.put("wipe()", piece.again(), ChartKnitter::wipe);
        Piece ravelled = piece.again();
        next.put("ravel()", ravelled, ChartKnitter::ravel);
        all.addAll(of(ravelled, "ravel(), "));
        for (int i = 0; i < 3; i++) {
            int carrier = i;
            String knit = "knit(" + carrier + ")";
            Piece knitted = piece.again();
            next.put(knit, knitted, x -> x.knit(carrier));
            next.put(knit + ", place()", knitted, ChartKnitter::place);
            all.addAll(of(knitted, knit + ", "));
        }
        all.addAll(next.lines);
        return all;
    }

    private static List<String> of(Piece piece, String behind) {
        View view = new View(piece, behind);
        view.askCloth();
        view.askLoops();
        view.askRows();
        return view.lines;
    }

    private void askCloth() {
        for (int i = -1; i <= 16; i++) {
            int column = i;
            ask("bed(" + column + ")", x -> x.bed(column));
            for (int j = -1; j <= 4; j++) {
                int depth = j;
                ask("live(" + column + ", " + depth + ")", x -> x.live(column, depth));
            }
        }
        for (int i = 0; i < 4; i++) {
            int any = i;
            ask("number(" + any + ")", x -> x.number(any));
            ask("side(" + any + ")", x -> x.side(any));
        }
    }

    private void askLoops() {
        int loops = piece.again().number(2);
        for (int i = 0; i <= loops; i++) {
            int loop = i;
            for (int j = 0; j < 5; j++) {
                int any = j;
                ask("loop(" + loop + ", " + any + ")", x -> x.loop(loop, any));
                ask("parent(" + loop + ", " + any + ")", x -> x.parent(loop, any));
            }
        }
    }

    private void askRows() {
        int rows = piece.again().number(0);
        for (int i = 1; i <= rows + 1; i++) {
            int row = i;
            for (int j = 0; j < 5; j++) {
                int what = j;
                ask("program(" + row + ", " + what + ")", x -> x.program(row, what));
            }
            int pairs = i <= rows ? piece.again().program(row, 4) : 0;
            for (int j = 0; j <= pairs; j++) {
                int pair = j;
                ask("cross(" + row + ", " + pair + ")", x -> x.cross(row, pair));
            }
        }
    }

    private void ask(String question, ToIntFunction<ChartKnitter> call) {
        if (copy.isUsedUp()) {
            copy = piece.again();
        }
        put(question, copy, call);
    }

    private void put(String question, Piece asked, ToIntFunction<ChartKnitter> call) {
        String answer;
        try {
            answer = "" + asked.ask(call);
        } catch (RuntimeException e) {
            answer = e.getClass().getSimpleName();
        }
        lines.add(behind + question + " = " + answer);
    }
}
