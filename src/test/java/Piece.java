import java.util.ArrayList;
import java.util.List;
import java.util.function.ToIntFunction;

/**
 * A piece of knitting: an object under test with the record of its calls. From the record others just like it can be
 * made, so that all it holds can be asked although an object answers no more than 512 calls.
 */
final class Piece {
    static final int MOST_CALLS = 512;
    static final int NONE = ChartKnitter.NONE;

    private final ChartKnitter x = new ChartKnitter();
    private final List<ToIntFunction<ChartKnitter>> calls = new ArrayList<>();

    static Piece cast(int columns) {
        Piece piece = new Piece();
        piece.castOn(columns);
        return piece;
    }

    static String times(int n, String characters) {
        return characters.repeat(n);
    }

    int ask(ToIntFunction<ChartKnitter> call) {
        if (isUsedUp()) {
            throw new AssertionError("this test asks more than 512 calls of an object");
        }
        calls.add(call);
        return call.applyAsInt(x);
    }

    boolean isUsedUp() {
        return calls.size() == MOST_CALLS;
    }

    int callsLeft() {
        return MOST_CALLS - calls.size();
    }

    /** Another object after the same calls. */
    Piece again() {
        Piece copy = new Piece();
        for (ToIntFunction<ChartKnitter> call : calls) {
            try {
                copy.ask(call);
            } catch (RuntimeException e) {
                // The first one threw here too.
            }
        }
        return copy;
    }

    int write(long characters) {
        return ask(x -> x.write(characters));
    }

    /** As many calls as it takes; the last one's answer. */
    int write(String text) {
        int answer = 0;
        for (int i = 0; i < text.length(); i += 8) {
            answer = write(Check.pack(text.substring(i, Math.min(text.length(), i + 8))));
        }
        return answer;
    }

    int wipe() {
        return ask(ChartKnitter::wipe);
    }

    void castOn(int columns) {
        ask(x -> {
            x.castOn(columns);
            return 0;
        });
    }

    int knit(int carrier) {
        return ask(x -> x.knit(carrier));
    }

    int place() {
        return ask(ChartKnitter::place);
    }

    int ravel() {
        return ask(ChartKnitter::ravel);
    }

    int number(int what) {
        return ask(x -> x.number(what));
    }

    int program(int row, int what) {
        return ask(x -> x.program(row, what));
    }

    int parent(int loop, int j) {
        return ask(x -> x.parent(loop, j));
    }

    int loop(int loop, int what) {
        return ask(x -> x.loop(loop, what));
    }

    int cross(int row, int j) {
        return ask(x -> x.cross(row, j));
    }

    int live(int column, int depth) {
        return ask(x -> x.live(column, depth));
    }

    int bed(int column) {
        return ask(x -> x.bed(column));
    }

    int side(int carrier) {
        return ask(x -> x.side(carrier));
    }

    /** Writes a text in the place of the one that was there. */
    Piece text(String text) {
        wipe();
        write(text);
        return this;
    }

    /** Knits rows by a carrier, each of which must be without a fault. */
    Piece rowsBy(int carrier, String... texts) {
        for (String text : texts) {
            text(text);
            Check.due("knit(" + carrier + ") of " + text, knit(carrier), 0);
        }
        return this;
    }

    Piece rows(String... texts) {
        return rowsBy(0, texts);
    }

    /** A text that cannot be knitted: its fault, its place, and that it changes nothing but the place. */
    void fault(String text, int carrier, int fault, int place) {
        text(text);
        List<String> before = View.deep(this);
        Check.due("fault of '" + text + "'", knit(carrier), fault);
        Check.due("place of the fault of '" + text + "'", place(), place);
        Check.same("what the fault of '" + text + "' changed", View.deep(this), before);
    }

    /** A call that must throw just this, and change nothing. */
    void refuses(String what, Class<? extends RuntimeException> type, ToIntFunction<ChartKnitter> call) {
        int place = again().place();
        refusesButForPlace(what, type, call);
        Check.due("place() behind " + what, again().place(), place);
    }

    /** A knit() that throws may leave the place or say that no fault was told: the document can be read both ways. */
    void refusesToKnit(int carrier, Class<? extends RuntimeException> type) {
        int before = again().place();
        refusesButForPlace("knit(" + carrier + ")", type, x -> x.knit(carrier));
        int after = again().place();
        Check.due("place() behind knit(" + carrier + ")", after == NONE ? before : after, before);
    }

    private void refusesButForPlace(String what, Class<? extends RuntimeException> type,
            ToIntFunction<ChartKnitter> call) {
        List<String> before = View.deep(this);
        Check.dueThrow(what, type, () -> ask(call));
        Check.same("what " + what + " changed", View.deep(this), before);
    }

    void dueNumbers(int rows, int columns, int loops, int dropped) {
        int[] want = {rows, columns, loops, dropped};
        for (int what = 0; what < want.length; what++) {
            Check.due("number(" + what + ")", number(what), want[what]);
        }
    }

    void dueProgram(int row, int transfers, int rackings, int released, int made, int crossed) {
        int[] want = {transfers, rackings, released, made, crossed};
        for (int what = 0; what < want.length; what++) {
            Check.due("program(" + row + ", " + what + ")", program(row, what), want[what]);
        }
    }

    void dueLoop(int loop, int row, int column, int bed, int carrier, int where) {
        int[] want = {row, column, bed, carrier, where};
        for (int what = 0; what < want.length; what++) {
            Check.due("loop(" + loop + ", " + what + ")", loop(loop, what), want[what]);
        }
    }

    void dueParents(int loop, int... parents) {
        for (int j = -1; j < 5; j++) {
            boolean there = j >= 0 && j < parents.length;
            Check.due("parent(" + loop + ", " + j + ")", parent(loop, j), there ? parents[j] : NONE);
        }
    }

    void dueStack(int column, int... loops) {
        for (int depth = -1; depth < 5; depth++) {
            boolean there = depth >= 0 && depth < loops.length;
            Check.due("live(" + column + ", " + depth + ")", live(column, depth), there ? loops[depth] : NONE);
        }
    }

    void dueBeds(int... beds) {
        for (int column = -1; column <= beds.length; column++) {
            boolean there = column >= 0 && column < beds.length;
            Check.due("bed(" + column + ")", bed(column), there ? beds[column] : NONE);
        }
    }

    void dueSides(int... sides) {
        for (int carrier = 0; carrier < 3; carrier++) {
            Check.due("side(" + carrier + ")", side(carrier), sides[carrier]);
        }
    }

    /** Pairs as 1024 * left + 2 * right + front. */
    void dueCrossed(int row, int... pairs) {
        Check.due("pairs of row " + row, program(row, 4), pairs.length);
        for (int j = -1; j <= pairs.length; j++) {
            boolean there = j >= 0 && j < pairs.length;
            Check.due("cross(" + row + ", " + j + ")", cross(row, j), there ? pairs[j] : NONE);
        }
    }
}
