import java.util.ArrayList;
import java.util.List;
import java.util.TreeSet;
import java.util.function.ToIntFunction;

/** "What it is": what must hold of every piece of knitting, asked of made-up ones and of all that they were before. */
public final class WhatItIsTest {
    private static final int PIECES = 60;
    private static final int ROWS = 7;
    private static final int MOST_CHARACTERS = 40;

    private final Piece piece;
    private Piece copy;

    private WhatItIsTest(Piece piece) {
        this.piece = piece;
        this.copy = piece.again();
    }

    interface Question {
        void of(WhatItIsTest asked);
    }

    public static void main(String[] args) {
        List<Piece> pieces = new ArrayList<>();
        for (int i = 0; i < PIECES; i++) {
            pieces.add(new Maker(i).make());
        }
        Check.sentence("made-up pieces that are worth to be asked", () -> worth(pieces));
        all(pieces, "Knits charts, row by row", WhatItIsTest::rowByRow);
        all(pieces, "makes each row's program", WhatItIsTest::programs);
        all(pieces, "runs it with every loop being followed", WhatItIsTest::followed);
        all(pieces, "tells which loops were drawn through which", WhatItIsTest::drawnThrough);
        all(pieces, "what crossed", WhatItIsTest::crossed);
        Check.sentence("the same calls give the same answers, whatever other objects do", WhatItIsTest::alone);
        Check.finish();
    }

    private static void all(List<Piece> pieces, String words, Question question) {
        Check.sentence(words, () -> pieces.forEach(piece -> question.of(new WhatItIsTest(piece))));
    }

    /** Rows, dropped loops, pairs that crossed, and loops through several: some of each in most pieces. */
    private static void worth(List<Piece> pieces) {
        int[] found = new int[4];
        for (Piece piece : pieces) {
            WhatItIsTest asked = new WhatItIsTest(piece);
            found[0] += asked.rows();
            found[1] += asked.ask(x -> x.number(3));
            for (int i = 1; i <= asked.rows(); i++) {
                int row = i;
                found[2] += asked.ask(x -> x.program(row, 4));
            }
            for (int loop = 0; loop < asked.loops(); loop++) {
                found[3] += asked.parents(loop).size() > 1 ? 1 : 0;
            }
        }
        for (int i = 0; i < found.length; i++) {
            Check.due("found " + i + " in so many: " + found[i], found[i] >= 3 * PIECES ? 1 : 0, 1);
        }
    }

    /** Pieces of up to seven rows, with any stitches, by any carriers. */
    private static final class Maker {
        private static final String[] SIGNS =
            {"o", "o", "k", "p", "t", "t", "m", "x", "l", "r", "<11", ">11", "c", "<21", ">12", "<22"};
        private static final int[] TAKES = {0, 0, 1, 1, 1, 1, 1, 1, 2, 2, 2, 2, 3, 3, 3, 4};
        private long seed;

        Maker(int number) {
            seed = 104729L * number + 17;
        }

        Piece make() {
            Piece made = Piece.cast(6 + below(11));
            for (int i = 0; i < 3 * ROWS && made.number(0) < ROWS; i++) {
                made.text(row(made.number(1)));
                made.knit(below(3));
            }
            return made;
        }

        private String row(int columns) {
            StringBuilder text = new StringBuilder();
            int left = columns;
            while (left > 0 && text.length() < MOST_CHARACTERS - 3) {
                int sign = below(SIGNS.length);
                if (TAKES[sign] <= left) {
                    text.append(SIGNS[sign]);
                    left -= TAKES[sign];
                }
            }
            return text.toString();
        }

        private int below(int bound) {
            seed = seed * 6364136223846793005L + 1442695040888963407L;
            return (int) ((seed >>> 33) % bound);
        }
    }

    private int ask(ToIntFunction<ChartKnitter> call) {
        if (copy.isUsedUp()) {
            copy = piece.again();
        }
        return copy.ask(call);
    }

    /** The piece as it was when it had so many rows. */
    private WhatItIsTest before(int rows) {
        Piece ravelled = piece.again();
        while (ravelled.number(0) > rows) {
            ravelled.ravel();
        }
        return new WhatItIsTest(ravelled);
    }

    private int rows() {
        return ask(x -> x.number(0));
    }

    private int loops() {
        return ask(x -> x.number(2));
    }

    private int of(int loop, int what) {
        return ask(x -> x.loop(loop, what));
    }

    private List<Integer> parents(int loop) {
        List<Integer> parents = new ArrayList<>();
        for (int j = 0; ask(j, loop) != Piece.NONE; j++) {
            parents.add(ask(j, loop));
        }
        return parents;
    }

    private int ask(int j, int loop) {
        return ask(x -> x.parent(loop, j));
    }

    /** The loops of a row have one carrier, and stand in the order in which the row goes. */
    private void rowByRow() {
        for (int loop = 1; loop < loops(); loop++) {
            int row = of(loop, 0);
            if (of(loop - 1, 0) == row) {
                Check.due("carrier of the loop " + loop, of(loop, 3), of(loop - 1, 3));
                boolean toTheLeft = of(loop, 1) < of(loop - 1, 1);
                Check.due("loop " + loop + " is on the left of the one before", toTheLeft ? 1 : 0, row % 2);
            } else {
                Check.due("the loop " + loop + " begins a later row", of(loop - 1, 0) < row ? 1 : 0, 1);
            }
        }
    }

    private void programs() {
        for (int i = 1; i <= rows(); i++) {
            int row = i;
            int made = 0;
            for (int loop = 0; loop < loops(); loop++) {
                made += of(loop, 0) == row ? 1 : 0;
            }
            Check.due("loops made in row " + row, ask(x -> x.program(row, 3)), made);
            WhatItIsTest below = before(row - 1);
            WhatItIsTest then = before(row);
            int dropped = then.ask(x -> x.number(3)) - below.ask(x -> x.number(3));
            int released = ask(x -> x.program(row, 2));
            Check.due("loops dropped in row " + row + ", of " + released + " columns",
                dropped >= released && dropped <= 4 * released ? 1 : 0, 1);
            int transfers = ask(x -> x.program(row, 0));
            int columns = below.ask(x -> x.number(1)) - released;
            Check.due("no column goes to the back, to the front and to the back more than once in row " + row,
                transfers <= 3 * columns ? 1 : 0, 1);
            boolean racked = ask(x -> x.program(row, 1)) > 0;
            Check.due("racked in row " + row, racked ? 1 : 0, then.movedSince(below) ? 1 : 0);
        }
    }

    /** Whether a stack, or what was drawn through it, is now in another column. */
    private boolean movedSince(WhatItIsTest below) {
        for (int loop = 0; loop < below.loops(); loop++) {
            int was = below.of(loop, 4);
            int is = was >= 0 ? placeOf(loop) : Piece.NONE;
            if (is >= 0 && is != was) {
                return true;
            }
        }
        return false;
    }

    /** The column of a loop's stack, or that of the loop which was drawn through it; below 0 when it was dropped. */
    private int placeOf(int loop) {
        int now = of(loop, 4);
        for (int child = loop + 1; child < loops() && now == -1; child++) {
            if (parents(child).contains(loop)) {
                return of(child, 1);
            }
        }
        return now;
    }

    /** Each loop is in one stack, or the parent of one loop, or dropped. */
    private void followed() {
        int[] inStacks = new int[loops()];
        int[] isParent = new int[loops()];
        for (int i = 0; i < ask(x -> x.number(1)); i++) {
            int column = i;
            Check.due("the column " + column + " has a stack", ask(x -> x.live(column, 0)) >= 0 ? 1 : 0, 1);
            for (int j = 0; j < 4; j++) {
                int depth = j;
                int loop = ask(x -> x.live(column, depth));
                if (loop != Piece.NONE) {
                    inStacks[loop]++;
                    Check.due("where the loop " + loop + " is", of(loop, 4), column);
                }
            }
        }
        int dropped = 0;
        for (int loop = 0; loop < loops(); loop++) {
            for (int parent : parents(loop)) {
                isParent[parent]++;
            }
        }
        for (int loop = 0; loop < loops(); loop++) {
            int where = of(loop, 4);
            Check.due("stacks that have the loop " + loop, inStacks[loop], where >= 0 ? 1 : 0);
            Check.due("loops drawn through the loop " + loop, isParent[loop], where == -1 ? 1 : 0);
            dropped += where == -2 ? 1 : 0;
        }
        Check.due("dropped", ask(x -> x.number(3)), dropped);
    }

    private void drawnThrough() {
        for (int i = 0; i < loops(); i++) {
            int loop = i;
            List<Integer> parents = parents(loop);
            Check.due("no more than four", parents.size() <= 4 ? 1 : 0, 1);
            for (int parent : parents) {
                Check.due("the parent " + parent + " of " + loop + " is of a row below",
                    of(parent, 0) < of(loop, 0) ? 1 : 0, 1);
                int before = before(of(loop, 0) - 1).of(parent, 4);
                Check.due("the parent " + parent + " was in a stack before", before >= 0 ? 1 : 0, 1);
            }
        }
    }

    /** Just those loops crossed of which the left one is on the right now. */
    private void crossed() {
        for (int i = 1; i <= rows(); i++) {
            int row = i;
            TreeSet<String> told = new TreeSet<>();
            int pairs = ask(x -> x.program(row, 4));
            for (int k = 0; k < pairs; k++) {
                int j = k;
                int pair = ask(x -> x.cross(row, j));
                told.add(pair / 1024 + " and " + pair / 2 % 512);
            }
            Check.due("each pair once", told.size(), pairs);
            TreeSet<String> due = before(row).changedSince(before(row - 1));
            Check.same("pairs of row " + row, List.copyOf(told), List.copyOf(due));
        }
    }

    private TreeSet<String> changedSince(WhatItIsTest below) {
        int loops = below.loops();
        int[] was = new int[loops];
        int[] is = new int[loops];
        for (int loop = 0; loop < loops; loop++) {
            was[loop] = below.of(loop, 4);
            is[loop] = was[loop] < 0 ? Piece.NONE : placeOf(loop);
        }
        TreeSet<String> changed = new TreeSet<>();
        for (int left = 0; left < loops; left++) {
            for (int right = 0; right < loops; right++) {
                boolean both = is[left] >= 0 && is[right] >= 0;
                if (both && was[left] < was[right] && is[left] > is[right]) {
                    changed.add(left + " and " + right);
                }
            }
        }
        return changed;
    }

    private static List<ToIntFunction<ChartKnitter>> calls(int columns, String... rows) {
        List<ToIntFunction<ChartKnitter>> calls = new ArrayList<>();
        calls.add(x -> {
            x.castOn(columns);
            return 0;
        });
        for (String row : rows) {
            calls.add(x -> x.write(Check.pack(row)));
            calls.add(x -> x.knit(0));
            calls.add(ChartKnitter::place);
            for (int i = 0; i < 4; i++) {
                int any = i;
                calls.add(x -> x.number(any));
                calls.add(x -> x.live(any, 0));
                calls.add(x -> x.loop(any, 4));
                calls.add(x -> x.bed(any));
            }
        }
        calls.add(ChartKnitter::ravel);
        calls.add(x -> x.live(0, 0));
        return calls;
    }

    private static void alone() {
        List<ToIntFunction<ChartKnitter>> calls = calls(4, "<11kp", "tmxk", "pok", "kkpz");
        List<ToIntFunction<ChartKnitter>> others = calls(6, "pxk>12", "lotp", "<22", "xxxm");
        ChartKnitter alone = new ChartKnitter();
        ChartKnitter first = new ChartKnitter();
        ChartKnitter second = new ChartKnitter();
        for (int i = 0; i < calls.size(); i++) {
            others.get(i).applyAsInt(second);
            int got = calls.get(i).applyAsInt(first);
            Check.due("call " + i, got, calls.get(i).applyAsInt(alone));
        }
    }
}
