/** Promises 34 to 40: shelves. */
public final class ShelvesTest {
    private static final Checks C = new Checks("ShelvesTest");
    private static final int BIG = Integer.MAX_VALUE;
    private static final int SMALL = Integer.MIN_VALUE;

    public static void main(String[] args) {
        keep();
        rows();
        put();
        elements();
        copies();
        copiesOntoItself();
        refusalsOfCopy();
        prices();
        failures();
        refusalsOfPieces();
        C.end();
    }

    private static void keep() {
        TowThatJerks x = Checks.towOf("p1010;p0020;");
        C.due("keep(0, 1, 1)", x.keep(0, 1, 1), 0);
        C.due("price of it", x.price(0), 20);
        C.due("another in its place", x.keep(0, 1, 0), 0);
        C.due("price of that", x.price(0), 30);
        C.due("keep(0, 1, 2)", x.keep(0, 1, 2), -1);
        C.due("keep(0, 1, -1)", x.keep(0, 1, -1), -1);
        C.due("keep(0, 2, 0)", x.keep(0, 2, 0), -1);
        C.due("keep(0, -1, 0)", x.keep(0, -1, 0), -1);
        C.due("keep(8, 1, 0)", x.keep(8, 1, 0), -1);
        C.due("keep(-1, 0, 0)", x.keep(-1, 0, 0), -1);
        C.due("the piece is there still", x.price(0), 30);
        C.due("a row in its place", x.row(0, 0, 3), 0);
        C.due("price of a row", x.price(0), -12);
        C.due("a piece in the row's place", x.keep(0, 1, 0), 0);
        C.due("no element", x.put(0, 0, 1), -12);
        C.due("nothing, k does not matter", x.keep(0, 0, 99), 0);
        C.due("nothing is there", x.price(0), -11);
        C.due("the piece stays in the line", x.count(0), 2);
        C.due("keep(7, 0, -5)", x.keep(7, 0, -5), 0);
        C.due("the row is gone", x.put(7, 0, 1), -11);
    }

    private static void rows() {
        TowThatJerks x = new TowThatJerks();
        for (int sort = 0; sort < 3; sort++) {
            C.due("row of a sort", x.row(sort, sort, 100), 0);
            C.due("0 at first", x.element(sort, 99), 0);
            C.due("put", x.put(sort, 99, 5), 0);
        }
        C.due("row(-1, 0, 1)", x.row(-1, 0, 1), -1);
        C.due("row(8, 0, 1)", x.row(8, 0, 1), -1);
        C.due("row(0, -1, 1)", x.row(0, -1, 1), -1);
        C.due("row(0, 3, 1)", x.row(0, 3, 1), -1);
        C.due("row(0, 0, 101)", x.row(0, 0, 101), -1);
        C.due("row(0, 0, -1)", x.row(0, 0, -1), -14);
        C.due("row(0, 0, SMALL)", x.row(0, 0, SMALL), -14);
        C.due("row(8, 0, -1)", x.row(8, 0, -1), -1);
        C.due("row(0, 3, -1)", x.row(0, 3, -1), -1);
        C.due("the row is as it was", x.element(0, 99), 5);
        C.due("a new row", x.row(0, 2, 100), 0);
        C.due("0 at first", x.element(0, 99), 0);
        C.due("a row of none", x.row(0, 0, 0), 0);
        C.due("has no place", x.put(0, 0, 1), -13);
    }

    private static void duePut(int sort, int v, long want) {
        TowThatJerks x = new TowThatJerks();
        x.row(3, sort, 2);
        C.due("put", x.put(3, 1, v), 0);
        C.due("element of sort " + sort + " behind " + v, x.element(3, 1), want);
        C.due("the other", x.element(3, 0), 0);
    }

    private static void put() {
        duePut(0, 127, 127);
        duePut(0, 128, -128);
        duePut(0, 200, -56);
        duePut(0, 256, 0);
        duePut(0, -129, 127);
        duePut(1, 32767, 32767);
        duePut(1, 32768, -32768);
        duePut(1, 40000, -25536);
        duePut(1, 65536, 0);
        duePut(1, 200, 200);
        duePut(2, BIG, BIG);
        duePut(2, SMALL, SMALL);
        TowThatJerks x = Checks.towOf("p001;");
        C.due("put(-1, 0, 0)", x.put(-1, 0, 0), -1);
        C.due("put(8, 0, 0)", x.put(8, 0, 0), -1);
        C.due("put onto nothing", x.put(0, 0, 0), -11);
        x.keep(0, 1, 0);
        C.due("put onto a piece", x.put(0, 99, 0), -12);
        x.row(0, 1, 3);
        C.due("put(0, -1, 0)", x.put(0, -1, 0), -13);
        C.due("put(0, 3, 0)", x.put(0, 3, 0), -13);
    }

    private static void elements() {
        TowThatJerks x = Checks.towOf("p001;");
        C.dueThrown(x, -1, 0, 1);
        C.dueThrown(x, 8, 0, 1);
        C.dueThrown(x, 0, 0, 2);
        x.keep(0, 1, 0);
        C.dueThrown(x, 0, 0, 2);
        x.row(0, 0, 2);
        C.dueThrown(x, 0, 0, 0);
        C.dueThrown(x, 0, 1, 0);
        C.dueThrown(x, 0, 2, 2);
        C.dueThrown(x, 0, -1, 2);
        x.keep(0, 0, 0);
        C.dueThrown(x, 0, 0, 2);
    }

    private static long[] all(TowThatJerks x, int d, int n) {
        long[] elements = new long[n];
        for (int i = 0; i < n; i++) {
            elements[i] = x.element(d, i);
        }
        return elements;
    }

    private static void copies() {
        TowThatJerks x = new TowThatJerks();
        Checks.row(x, 0, 1, 1, 2, 3, 4, 5);
        Checks.row(x, 1, 1, 11, 12, 13);
        C.due("copy", x.copy(0, 3, 1, 1, 2), 2);
        C.dueAll("to", all(x, 1, 3), 11, 4, 5);
        C.dueAll("from", all(x, 0, 5), 1, 2, 3, 4, 5);
        C.due("copy of none at both ends", x.copy(0, 5, 1, 3, 0), 0);
        C.due("copy of all", x.copy(1, 0, 0, 0, 3), 3);
        C.dueAll("to", all(x, 0, 5), 11, 4, 5, 4, 5);
    }

    private static void copiesOntoItself() {
        TowThatJerks x = new TowThatJerks();
        Checks.row(x, 0, 2, 1, 2, 3, 4, 5);
        C.due("copy upward", x.copy(0, 0, 0, 1, 4), 4);
        C.dueAll("moved up", all(x, 0, 5), 1, 1, 2, 3, 4);
        C.due("copy downward", x.copy(0, 2, 0, 0, 3), 3);
        C.dueAll("moved down", all(x, 0, 5), 2, 3, 4, 3, 4);
    }

    private static void refusalsOfCopy() {
        TowThatJerks x = Checks.towOf("p001;");
        Checks.row(x, 0, 1, 1, 2, 3);
        Checks.row(x, 1, 1, 4, 5);
        Checks.row(x, 2, 2, 4, 5);
        x.keep(3, 1, 0);
        C.due("from no shelf", x.copy(-1, 0, 1, 0, 1), -1);
        C.due("to no shelf", x.copy(4, 0, 8, 0, 1), -1);
        C.due("from nothing", x.copy(4, 0, 3, 0, 1), -11);
        C.due("to nothing", x.copy(3, 0, 4, 0, 1), -11);
        C.due("from a piece", x.copy(3, 0, 1, 0, 1), -12);
        C.due("to a piece", x.copy(1, 0, 3, 0, 99), -12);
        C.due("a piece onto itself", x.copy(3, 0, 3, 0, 0), -12);
        x.row(5, 0, 2);
        C.due("bytes to a piece", x.copy(5, 0, 3, 0, 0), -12);
        C.due("a piece to bytes", x.copy(3, 0, 5, 0, 0), -12);
        C.due("of another sort", x.copy(1, 0, 2, 0, -1), -12);
        int[][] wrong = {{0, 0, -1}, {-1, 0, 1}, {0, -1, 1}, {4, 0, 0}, {0, 3, 0}, {3, 0, 1}, {0, 2, 1},
            {2, 0, 2}, {0, 1, 2}, {0, 0, 3}, {BIG, 0, 1}, {1, 0, BIG}, {BIG, 0, BIG}, {0, BIG, BIG}, {SMALL, 0, 1}};
        for (int[] w : wrong) {
            C.due("copy(0, " + w[0] + ", 1, " + w[1] + ", " + w[2] + ")", x.copy(0, w[0], 1, w[1], w[2]), -13);
        }
        C.dueAll("nothing changed", all(x, 1, 2), 4, 5);
    }

    private static void duePrices(int figure, int fathoms, int... want) {
        for (int kind = 0; kind < 8; kind++) {
            TowThatJerks x = Checks.towOf("p" + kind + figure + fathoms + ";");
            x.keep(2, 1, 0);
            C.due("price of kind " + kind, x.price(2), want[kind]);
        }
    }

    private static void prices() {
        duePrices(9, 10, 10, 30, 60, 29, 20, 30, 9, 8);
        duePrices(4, 11, 11, 33, 61, 26, 22, 30, 8, 7);
        // A worn one of one fathom is worth less than nothing.
        duePrices(0, 1, 1, 3, 51, 2, 2, 25, 0, -1);
        duePrices(9, 99, 99, 297, 149, 207, 198, 74, 69, 68);
    }

    private static void failures() {
        TowThatJerks x = Checks.towOf("p711;p411;p411;p591;p691;p781;");
        int[] want = {208, 101, 102, -15, 4, 222};
        for (int k = 0; k < 6; k++) {
            x.keep(5, 1, k);
            C.due("toss of piece " + k, x.toss(5), want[k]);
            C.due("it stays on its shelf", x.toss(5), want[k]);
        }
        for (int kind = 0; kind < 8; kind++) {
            TowThatJerks zero = Checks.towOf("p" + kind + "05;");
            zero.keep(0, 1, 0);
            C.due("toss of kind " + kind + " with figure 0", zero.toss(0), -15);
        }
        int[] plain = {0, 1, 2, 3};
        TowThatJerks four = Checks.towOf("p011;p111;p211;p311;");
        for (int k : plain) {
            four.keep(0, 1, k);
            C.due("toss of kind " + k, four.toss(0), k);
        }
    }

    private static void refusalsOfPieces() {
        TowThatJerks x = Checks.towOf("p411;");
        int[] noShelf = {-1, 8, BIG, SMALL};
        for (int d : noShelf) {
            C.due("price of no shelf", x.price(d), -1);
            C.due("toss of no shelf", x.toss(d), -1);
        }
        C.due("price of nothing", x.price(0), -11);
        C.due("toss of nothing", x.toss(0), -11);
        C.due("price of a row", x.price(7), -12);
        C.due("toss of a row", x.toss(7), -12);
    }
}
