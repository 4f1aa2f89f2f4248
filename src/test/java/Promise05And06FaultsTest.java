/** Promises 5 (knit) and 6 (place): every fault, their order, and that a fault changes nothing else. */
public final class Promise05And06FaultsTest {
    public static void main(String[] args) {
        throwing();
        wrongCharacters();
        takenAndGiven();
        overfullNeedles();
        tooFar();
        carriers();
        tooManyRows();
        tooManyLoops();
        order();
        places();
        Check.finish();
    }

    private static void throwing() {
        ChartKnitter x = Check.cast(1);
        for (int carrier : new int[] {-1, 3, Integer.MIN_VALUE, Integer.MAX_VALUE}) {
            Check.dueThrow("knit(" + carrier + ")", IllegalArgumentException.class, () -> x.knit(carrier));
        }
        x.write(Check.pack("p"));
        Check.dueThrow("knit(3)", IllegalArgumentException.class, () -> x.knit(3));
        Check.due("the text stays", x.wipe(), 1);
        Check.due("no row", x.number(0), 0);
    }

    private static void wrongCharacters() {
        ChartKnitter x = Check.cast(2);
        Check.fault(x, "", 0, 1, 0);
        Check.fault(x, "z", 0, 1, 0);
        Check.fault(x, "kK", 0, 1, 1);
        Check.fault(x, "k k", 0, 1, 1);
        Check.fault(x, "1", 0, 1, 0);
        Check.fault(x, "<", 0, 1, 1);
        Check.fault(x, "k>", 0, 1, 2);
        Check.fault(x, "<1", 0, 1, 2);
        Check.fault(x, "<0", 0, 1, 1);
        Check.fault(x, "<5", 0, 1, 1);
        Check.fault(x, "<k", 0, 1, 1);
        Check.fault(x, ">1k", 0, 1, 2);
        Check.fault(x, ">15", 0, 1, 2);
        Check.fault(x, ">10", 0, 1, 2);
        Check.fault(x, "<111", 0, 1, 3);
        Check.fault(x, "<1z?", 0, 1, 2);
        Check.fault(x, "\u00eb", 0, 1, 0);
        Check.fault(x, "kkkkkkkkkkkkkkkkkkkkkkkkkkkkkkkkkkkkkkk<", 0, 1, 40);
        Check.fault(x, "kkkkkkkkkkkkkkkkkkkkkkkkkkkkkkkkkkkkkkkz", 0, 1, 39);
        Check.rows(x, "<11");
    }

    private static void takenAndGiven() {
        ChartKnitter x = Check.cast(3);
        Check.fault(x, "kk", 0, 2, -1);
        Check.fault(x, "kkkk", 0, 2, -1);
        Check.fault(x, "o", 0, 2, -1);
        Check.fault(x, "<31", 0, 2, -1);
        Check.fault(x, "<44<44<44<44<44<44<44<44<44<44<44<44<44", 0, 2, -1);
        Check.fault(x, "oooooooooooooooooooooooooooooooooooooooo", 0, 2, -1);
        Check.fault(x, "xxx", 0, 3, -1);
        Check.fault(x, "kkkoooooooooooooo", 0, 3, -1);
        Check.rows(x, "kkkooooooooooooo");
        Check.due("columns", x.number(1), 16);
        Check.rows(x, "xxxxxxxxxxxxxxxxo");
    }

    private static void overfullNeedles() {
        ChartKnitter x = Check.cast(4);
        Check.rows(x, "ttkk", "tkkt", "tkkt");
        int[] sizes = {4, 1, 1, 3};
        for (int i = 0; i < 4; i++) {
            Check.due("top of " + i, x.live(i, sizes[i] - 1) >= 0 ? 1 : 0, 1);
            Check.due("above " + i, x.live(i, sizes[i]), -1);
        }
        Check.fault(x, "tkkt", 0, 4, 0);
        Check.fault(x, "rkk", 0, 4, 0);
        Check.fault(x, "lkt", 0, 4, 0);
        Check.fault(x, "ckk", 0, 2, -1);
        Check.fault(x, "ck", 0, 4, 0);
        Check.fault(x, "kc", 0, 4, 1);
        Check.fault(x, "ooookc", 0, 4, 5);
        Check.fault(x, "<11c", 0, 2, -1);
        Check.fault(x, "<11tt", 0, 0, -1);
        Check.due("ravel()", x.ravel(), 3);
        Check.rows(x, "mkl");
        Check.due("four are drawn through", x.parent(x.live(2, 0), 3) >= 0 ? 1 : 0, 1);
        Check.fault(x, "ktt", 0, 0, -1);
        Check.due("ravel()", x.ravel(), 4);
        Check.fault(x, "<11t", 0, 0, -1);
    }

    private static void tooFar() {
        ChartKnitter x = Check.cast(2);
        Check.fault(x, "oooooooookk", 0, 5, 9);
        Check.fault(x, "kooooooooop", 0, 5, 10);
        Check.fault(x, "oooooooo>11", 0, 5, 8);
        Check.rows(x, "ooooooookk");
        ChartKnitter y = Check.cast(16);
        Check.fault(y, "xxxxxxxxxxxxxxxk", 0, 5, 15);
        Check.fault(y, "xxxxxxxxxkmpkkkk", 0, 5, 9);
        Check.fault(y, "rrrrrrrl", 0, 0, -1);
        ChartKnitter z = Check.cast(16);
        Check.fault(z, "ccccck", 0, 5, 4);
        Check.fault(z, "xxxxxxxxkkkkkkkk", 0, 0, -1);
    }

    private static void carriers() {
        ChartKnitter x = Check.cast(1);
        Check.fault(x, "k", 0, 0, -1);
        Check.fault(x, "k", 0, 0, -1);
        Check.fault(x, "k", 1, 0, -1);
        Check.fault(x, "k", 0, 6, -1);
        Check.fault(x, "m", 2, 0, -1);
        Check.fault(x, "k", 1, 6, -1);
        Check.fault(x, "k", 2, 0, -1);
        Check.fault(x, "k", 1, 0, -1);
        Check.due("rows", x.number(0), 6);
        ChartKnitter y = Check.cast(1);
        Check.rows(y, "k");
        Check.fault(y, "k", 1, 0, -1);
        Check.fault(y, "k", 1, 0, -1);
        Check.fault(y, "k", 0, 0, -1);
    }

    private static void tooManyRows() {
        ChartKnitter x = Check.cast(2);
        for (int i = 1; i <= 20; i++) {
            Check.rows(x, "kp");
        }
        Check.fault(x, "kp", 0, 7, -1);
        Check.fault(x, "mm", 1, 7, -1);
        Check.due("the text stays", x.wipe(), 2);
        Check.due("rows", x.number(0), 20);
        Check.due("ravel()", x.ravel(), 19);
        Check.rows(x, "kp");
    }

    private static void tooManyLoops() {
        ChartKnitter x = Check.cast(16);
        for (int i = 1; i <= 17; i++) {
            Check.rows(x, "kkkkkkkkkkkkkkkk");
        }
        Check.due("loops", x.number(2), 288);
        Check.fault(x, "kkkkkkkkkkkkkmmm", 0, 8, -1);
        Check.fault(x, "ooookkkkxkkkkkkkkrr", 0, 2, -1);
        Check.rows(x, "kkkkmmmmkkkkkkkk");
        Check.due("loops", x.number(2), 300);
        Check.due("the last loop", x.loop(299, 1), 15);
        Check.fault(x, "mmmmmmmmmmmmmmmt", 0, 8, -1);
        Check.rows(x, "mmmmmmmmmmmmmmmm", "mmmmmmmmmmmmmmmx");
        Check.fault(x, "kkkkkkkkkkkkkkk", 0, 7, -1);
    }

    /** When several faults are there, the one with the lowest number is told. */
    private static void order() {
        ChartKnitter x = Check.cast(16);
        Check.fault(x, "xxz", 0, 1, 2);
        Check.fault(x, "kooooooooooooooooooo", 0, 2, -1);
        Check.rows(x, "ttttttttttttttkk", "ttttttttttttttkk", "ttttttttttttttkk");
        Check.fault(x, "oookkkkkkkkkkkkkkkk", 1, 3, -1);
        Check.fault(x, "xxxxxxxxxxkktkkk", 0, 4, 12);
        Check.fault(x, "xxxxxxxxxxkkkkkk", 1, 5, 10);
        Check.fault(x, "kkkkkkkkkkkkkkkk", 2, 0, -1);
        Check.fault(x, "xxxxxxxxxxkkkkkk", 2, 5, 10);
        for (int i = x.number(0) + 1; i <= 20; i++) {
            Check.fault(x, "mmmmmmmmmmmmmmmm", 1, 0, -1);
        }
        Check.fault(x, "kkkkkkkkkkkkkkkk", 0, 6, -1);
        Check.fault(x, "kkkkkkkkkkkkkkkk", 1, 7, -1);
    }

    private static void places() {
        ChartKnitter x = Check.cast(2);
        Check.fault(x, "kz", 0, 1, 1);
        x.wipe();
        x.write(Check.pack("k"));
        Check.due("writing leaves the place", x.place(), 1);
        Check.dueThrow("knit(3)", IllegalArgumentException.class, () -> x.knit(3));
        Check.due("a throw tells no fault", x.place(), 1);
        x.castOn(2);
        Check.due("casting on leaves the place", x.place(), 1);
        Check.due("a fault without a place", x.knit(0), 2);
        Check.due("place()", x.place(), -1);
        Check.fault(x, "z", 0, 1, 0);
        Check.rows(x, "kk");
        Check.due("no fault", x.place(), -1);
        Check.fault(x, "k<", 0, 1, 2);
        Check.due("ravel()", x.ravel(), 0);
        Check.due("ravelling leaves the place", x.place(), 2);
    }
}
