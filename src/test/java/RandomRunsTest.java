/** All promises: made-up runs of at most 512 calls, every answer compared with the model's. */
public final class RandomRunsTest {
    private static final int RUNS = 3000;
    private static final int CALLS = 512;
    private static final int[] EDGES = {Integer.MIN_VALUE, -2, -1, 0, 1, 4, 5, 16, 20, 21, 300, 512, Integer.MAX_VALUE};

    private final ChartKnitter x = new ChartKnitter();
    private final Model model = new Model();
    private final int run;
    private final String signs;
    private final int restless;
    private long seed;
    private int calls = 0;
    private static final int[] faults = new int[9];

    private RandomRunsTest(int run) {
        this.run = run;
        this.seed = 7919L * run + 1;
        this.signs = new String[] {"kpolrctmx", "kptm", "kkkkkptt", "ttttmmmx", "kpxo", "mmmmmmmt"}[run % 6];
        this.restless = run % 4 == 0 ? 3 : 40;
    }

    public static void main(String[] args) {
        for (int run = 0; run < RUNS; run++) {
            new RandomRunsTest(run).go();
        }
        for (int fault = 0; fault < faults.length; fault++) {
            Check.due("the runs tell " + fault, faults[fault] > 100 ? 1 : 0, 1);
        }
        Check.finish();
    }

    private interface Answer {
        int get();
    }

    private int below(int bound) {
        seed = seed * 6364136223846793005L + 1442695040888963407L;
        return (int) ((seed >>> 33) % bound);
    }

    private int oddly(int bound) {
        return below(30) == 0 ? EDGES[below(EDGES.length)] : below(bound);
    }

    private void go() {
        if (below(4) > 0) {
            castOn(1 + below(16));
        }
        while (calls < CALLS - 20) {
            step();
        }
    }

    private void step() {
        int choice = below(100);
        if (choice < 25) {
            row();
        } else if (choice < 27) {
            write(below(2) == 0 ? seed : seed & 0x00ff00ff0000ff00L);
        } else if (choice < 28) {
            same("wipe()", x::wipe, model.wipe());
        } else if (choice < 29 && below(restless) == 0) {
            castOn(oddly(17));
        } else if (choice < 34 && below(restless) < 10) {
            same("ravel()", x::ravel, model.ravel());
        } else {
            ask(below(9));
        }
    }

    private void castOn(int columns) {
        same("castOn(" + columns + ")", () -> {
            x.castOn(columns);
            return 0;
        }, model.castOn(columns));
    }

    private void write(long characters) {
        same("write(" + characters + ")", () -> x.write(characters), model.write(characters));
    }

    /** Writes a row that mostly fits the columns there are, and knits it by a carrier that mostly can. */
    private void row() {
        if (below(10) > 0) {
            same("wipe()", x::wipe, model.wipe());
        }
        String text = chart(model.number(1));
        for (int i = 0; i < text.length(); i += 8) {
            write(Check.pack(text.substring(i, Math.min(text.length(), i + 8))));
        }
        int carrier = oddly(3);
        if (below(8) > 0) {
            for (int i = 0; i < 3; i++) {
                if (model.side(i) != model.number(0) % 2) {
                    carrier = i;
                }
            }
        }
        int by = carrier;
        int fault = model.knit(by);
        if (fault >= 0) {
            faults[fault]++;
        }
        same("knit(" + by + ") of " + text, () -> x.knit(by), fault);
        // The document can be read in two ways on the place after a knit() that throws.
        if (fault >= 0) {
            same("place()", x::place, model.place());
        }
    }

    private String chart(int columns) {
        StringBuilder text = new StringBuilder();
        int left = columns;
        for (int i = 0; i < 30 && left > 0; i++) {
            char sign = signs.charAt(below(signs.length()));
            if (below(12) == 0) {
                int n = 1 + below(4);
                int m = 1 + below(4);
                if (n + m <= left) {
                    text.append(below(2) == 0 ? '<' : '>').append(n).append(m);
                    left -= n + m;
                }
                continue;
            }
            int takes = sign == 'o' ? 0 : sign == 'c' ? 3 : sign == 'l' || sign == 'r' ? 2 : 1;
            if (takes <= left && (takes > 0 || below(3) > 0)) {
                text.append(sign);
                left -= takes;
            }
        }
        if (below(12) == 0) {
            text.insert(below(text.length() + 1), "k<>12345zxxxoooo".charAt(below(16)));
        }
        if (below(30) == 0) {
            text.insert(below(text.length() + 1), "oooooooo");
        }
        if (below(30) == 0) {
            text.append("<".repeat(below(3)));
        }
        return text.substring(0, Math.min(40, text.length()));
    }

    private void ask(int which) {
        int row = oddly(model.number(0) + 2);
        int loop = oddly(model.number(2) + 1);
        int column = oddly(model.number(1) + 1);
        int small = oddly(5);
        switch (which) {
            case 0:
                // "0 for all before casting on" can be read in two ways for another what.
                int what = model.number(1) == 0 ? below(4) : small;
                same("number(" + what + ")", () -> x.number(what), model.number(what));
                break;
            case 1:
                same("program(" + row + ", " + small + ")", () -> x.program(row, small), model.program(row, small));
                break;
            case 2:
                same("parent(" + loop + ", " + small + ")", () -> x.parent(loop, small), model.parent(loop, small));
                break;
            case 3:
                same("loop(" + loop + ", " + small + ")", () -> x.loop(loop, small), model.loop(loop, small));
                break;
            case 4:
                int pair = oddly(Math.max(0, model.program(row, 4)) + 2);
                same("cross(" + row + ", " + pair + ")", () -> x.cross(row, pair), model.cross(row, pair));
                break;
            case 5:
                same("live(" + column + ", " + small + ")", () -> x.live(column, small), model.live(column, small));
                break;
            case 6:
                same("bed(" + column + ")", () -> x.bed(column), model.bed(column));
                break;
            case 7:
                same("side(" + small + ")", () -> x.side(small), model.side(small));
                break;
            default:
                same("loop(" + loop + ", 4)", () -> x.loop(loop, 4), model.loop(loop, 4));
                break;
        }
    }

    private void same(String call, Answer answer, int want) {
        calls++;
        int got;
        try {
            got = answer.get();
        } catch (RuntimeException e) {
            got = codeOf(e);
        }
        Check.due("run " + run + ", call " + calls + ": " + call, got, want);
    }

    private static int codeOf(RuntimeException e) {
        if (e.getClass() == IllegalStateException.class) {
            return Model.ISE;
        }
        if (e.getClass() == IllegalArgumentException.class) {
            return Model.IAE;
        }
        return e.getClass() == IndexOutOfBoundsException.class ? Model.IOOBE : -9999;
    }
}
