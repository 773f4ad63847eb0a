/** The edges of shelves: promises 34 to 40. */
final class EdgesOfShelves {
    private static final int MOST = Integer.MAX_VALUE;
    private static final int LEAST = Integer.MIN_VALUE;
    private static final int[] NO_SHELF = {-1, 8, LEAST, MOST};

    private EdgesOfShelves() {
    }

    static void look(Sentences s) {
        numbersOfShelves(s);
        sizes(s);
        theirRefusals(s);
        lowestBits(s);
        keep(s);
        row(s);
        put(s);
        element(s);
        copy(s);
        copyOfNone(s);
        copyOntoItself(s);
        prices(s);
        toss(s);
    }

    private static void numbersOfShelves(Sentences s) {
        s.says("SHELVES 0 .. 7 each hold nothing (at first)");
        TowThatJerks x = new TowThatJerks();
        for (int d = 0; d < 8; d++) {
            s.due("price(" + d + ")", x.price(d), -11);
            s.due("row(" + d + ", 0, 1)", x.row(d, 0, 1), 0);
        }
        for (int d = 0; d < 8; d++) {
            s.due("put(" + d + ", 0, ..)", x.put(d, 0, d + 1), 0);
        }
        for (int d = 0; d < 8; d++) {
            s.due("element(" + d + ", 0)", x.element(d, 0), d + 1);
        }
    }

    private static void sizes(Sentences s) {
        s.says("0 .. 100 elements, 0 at first");
        TowThatJerks x = new TowThatJerks();
        for (int sort = 0; sort < 3; sort++) {
            s.due("row(0, sort, 0)", x.row(0, sort, 0), 0);
            s.due("put(0, 0, 5)", x.put(0, 0, 5), -13);
            s.due("row(0, sort, 100)", x.row(0, sort, 100), 0);
            for (int i = 0; i < 100; i++) {
                s.due("element(0, " + i + ")", x.element(0, i), 0);
            }
            s.due("put(0, 99, 5)", x.put(0, 99, 5), 0);
            s.due("put(0, 100, 5)", x.put(0, 100, 5), -13);
        }
        // A new row in an old one's place is 0, too.
        x.row(0, 2, 100);
        s.due("element(0, 99)", x.element(0, 99), 0);
    }

    private static void theirRefusals(Sentences s) {
        TowThatJerks x = rows();
        s.says("-11 nothing is held where something is wanted");
        int[] onNothing = {x.tow(4), x.put(4, 0, 0), x.copy(4, 0, 0, 0, 0), x.copy(0, 0, 4, 0, 0), x.price(4),
            x.toss(4), x.legs(4, 0), x.judge(4)};
        dueEach(s, onNothing, -11);
        s.says("-12 it is of another kind");
        int[] onPiece = {x.tow(3), x.put(3, 0, 0), x.copy(3, 0, 0, 0, 0), x.copy(0, 0, 3, 0, 0), x.legs(3, 0), x.judge(3)};
        dueEach(s, onPiece, -12);
        int[] onShorts = {x.tow(0), x.price(0), x.toss(0), x.legs(0, 0), x.copy(0, 0, 2, 0, 0)};
        dueEach(s, onShorts, -12);
        s.says("-13 a place that isn't there (a number or a size that isn't as told, too)");
        x.row(5, 0, 3);
        int[] noPlace = {x.put(0, 3, 0), x.put(0, -1, 0), x.copy(0, 3, 1, 0, 1), x.copy(0, 0, 1, 2, 1),
            x.copy(0, 0, 1, 0, -1), x.legs(5, 0)};
        dueEach(s, noPlace, -13);
        x.row(5, 0, 4);
        s.due("legs(5, 0)", x.legs(5, 0), -13);
        s.says("-15 a FAILURE that is none");
        s.due("toss(3)", x.toss(3), -15);
    }

    private static void dueEach(Sentences s, int[] answers, int want) {
        for (int k = 0; k < answers.length; k++) {
            s.due("call " + k + " of these", answers[k], want);
        }
    }

    private static void lowestBits(Sentences s) {
        s.says("what is put in keeps its lowest bits");
        int[][] puts = {{0, 127, 127}, {0, 128, -128}, {0, 255, -1}, {0, 256, 0}, {0, -128, -128}, {0, -129, 127},
            {0, MOST, -1}, {0, LEAST, 0}, {1, 32767, 32767}, {1, 32768, -32768}, {1, 65535, -1}, {1, 65536, 0},
            {1, -32768, -32768}, {1, -32769, 32767}, {1, MOST, -1}, {1, LEAST, 0}, {2, MOST, MOST}, {2, LEAST, LEAST},
            {2, -1, -1}};
        for (int[] p : puts) {
            TowThatJerks x = new TowThatJerks();
            x.row(3, p[0], 3);
            s.due("put(3, 1, " + p[1] + ")", x.put(3, 1, p[1]), 0);
            s.due("element(3, 1) of sort " + p[0], x.element(3, 1), p[2]);
            s.due("element(3, 0)", x.element(3, 0), 0);
            s.due("element(3, 2)", x.element(3, 2), 0);
        }
    }

    private static void keep(Sentences s) {
        s.says("what = 0 nothing (the others do not matter)");
        TowThatJerks x = Checks.towOf("p1010;p0020;");
        int[] any = {0, 2, -1, LEAST, MOST};
        for (int k : any) {
            x.keep(0, 1, 0);
            s.due("keep(0, 0, " + k + ")", x.keep(0, 0, k), 0);
            s.due("price(0)", x.price(0), -11);
        }
        s.due("keep(0, 0, 0) of nothing", x.keep(0, 0, 0), 0);
        s.due("keep(7, 0, 0) of a row", x.keep(7, 0, 0), 0);
        s.due("put(7, 0, 1)", x.put(7, 0, 1), -11);
        s.says("1 PIECE k: 0. -1.");
        s.due("keep(0, 1, 0)", x.keep(0, 1, 0), 0);
        s.due("keep(7, 1, 1)", x.keep(7, 1, 1), 0);
        int[][] wrong = {{0, 1, -1}, {0, 1, 2}, {0, 1, 6}, {0, -1, 0}, {0, 2, 0}, {-1, 1, 0}, {8, 1, 0}, {-1, 0, 0}, {8, 0, 0}};
        for (int[] w : wrong) {
            s.due("keep(" + w[0] + ", " + w[1] + ", " + w[2] + ")", x.keep(w[0], w[1], w[2]), -1);
        }
        s.due("price(0)", x.price(0), 30);
        s.due("price(7)", x.price(7), 20);
        s.due("keep(0, 1, 0)", new TowThatJerks().keep(0, 1, 0), -1);
        // One that parted can be kept, too.
        TowThatJerks parted = Checks.towOf("p7110;v9;");
        parted.tenth();
        s.due("keep(0, 1, 0)", parted.keep(0, 1, 0), 0);
        s.due("toss(0)", parted.toss(0), 208);
    }

    private static void row(Sentences s) {
        s.says("SHELF d gets a ROW of a SORT: 0. -1 (n above 100); -14.");
        TowThatJerks x = new TowThatJerks();
        Checks.row(x, 0, 0, 77);
        for (int d : NO_SHELF) {
            s.due("row(" + d + ", 0, 1)", x.row(d, 0, 1), -1);
        }
        int[] wrong = {101, MOST};
        for (int n : wrong) {
            s.due("row(0, 0, " + n + ")", x.row(0, 0, n), -1);
        }
        s.due("row(0, -1, 1)", x.row(0, -1, 1), -1);
        s.due("row(0, 3, 1)", x.row(0, 3, 1), -1);
        s.due("row(0, 0, -1)", x.row(0, 0, -1), -14);
        s.due("row(0, 2, LEAST)", x.row(0, 2, LEAST), -14);
        s.due("element(0, 0)", x.element(0, 0), 77);
        s.says("-14 a size below 0");
        s.due("row(1, 0, -1)", x.row(1, 0, -1), -14);
        s.due("put(1, 0, 0)", x.put(1, 0, 0), -11);
        s.due("row(1, 0, 0)", x.row(1, 0, 0), 0);
    }

    private static void put(Sentences s) {
        s.says("Element i of the ROW becomes v: 0. -1, -11, -12, -13.");
        TowThatJerks x = Checks.towOf("p001;");
        for (int d : NO_SHELF) {
            s.due("put(" + d + ", 0, 5)", x.put(d, 0, 5), -1);
        }
        s.due("put(0, 0, 5)", x.put(0, 0, 5), -11);
        x.keep(0, 1, 0);
        s.due("put(0, 0, 5)", x.put(0, 0, 5), -12);
        x.row(0, 1, 3);
        int[] noPlace = {-1, 3, 100, LEAST, MOST};
        for (int i : noPlace) {
            s.due("put(0, " + i + ", 5)", x.put(0, i, 5), -13);
        }
        s.due("put(0, 0, 5)", x.put(0, 0, 5), 0);
        s.due("put(0, 2, 6)", x.put(0, 2, 6), 0);
        s.dueAll("elements", all(x, 0, 3), 5, 0, 6);
    }

    private static void element(Sentences s) {
        s.says("IllegalArgumentException: no such SHELF; IllegalStateException: no ROW, no such place.");
        TowThatJerks x = Checks.towOf("p001;");
        for (int d : NO_SHELF) {
            s.dueArgument(x, d, 0);
            s.dueArgument(x, d, -1);
        }
        s.dueState(x, 0, 0);
        x.keep(0, 1, 0);
        s.dueState(x, 0, 0);
        x.row(0, 0, 0);
        s.dueState(x, 0, 0);
        x.row(0, 2, 2);
        int[] noPlace = {-1, 2, 100, LEAST, MOST};
        for (int i : noPlace) {
            s.dueState(x, 0, i);
        }
        s.due("element(0, 0)", x.element(0, 0), 0);
        s.due("element(0, 1)", x.element(0, 1), 0);
        x.keep(0, 0, 0);
        s.dueState(x, 0, 0);
    }

    private static long[] all(TowThatJerks x, int d, int n) {
        long[] elements = new long[n];
        for (int i = 0; i < n; i++) {
            elements[i] = x.element(d, i);
        }
        return elements;
    }

    private static TowThatJerks rows() {
        TowThatJerks x = Checks.towOf("p001;");
        Checks.row(x, 0, 1, 1, 2, 3);
        Checks.row(x, 1, 1, 4, 5);
        Checks.row(x, 2, 2, 6, 7);
        x.keep(3, 1, 0);
        return x;
    }

    private static void dueCopy(Sentences s, TowThatJerks x, int want, int... a) {
        s.due("copy(" + a[0] + ", " + a[1] + ", " + a[2] + ", " + a[3] + ", " + a[4] + ")",
                x.copy(a[0], a[1], a[2], a[3], a[4]), want);
    }

    private static void copy(Sentences s) {
        s.says("-1, -11 (either), -12 (no ROWS of one SORT), -13 (n below 0, too;");
        TowThatJerks x = rows();
        for (int d : NO_SHELF) {
            dueCopy(s, x, -1, d, 0, 1, 0, 1);
            dueCopy(s, x, -1, 0, 0, d, 0, 1);
        }
        dueCopy(s, x, -11, 4, 0, 0, 0, 1);
        dueCopy(s, x, -11, 0, 0, 4, 0, 1);
        dueCopy(s, x, -11, 4, 0, 4, 0, 0);
        dueCopy(s, x, -12, 3, 0, 0, 0, 1);
        dueCopy(s, x, -12, 0, 0, 3, 0, 1);
        dueCopy(s, x, -12, 3, 0, 3, 0, 0);
        x.row(6, 0, 2);
        dueCopy(s, x, -12, 3, 0, 6, 0, 1);
        dueCopy(s, x, -12, 6, 0, 3, 0, 1);
        dueCopy(s, x, -12, 0, 0, 2, 0, 1);
        dueCopy(s, x, -12, 2, 0, 0, 0, 0);
        int[][] wrong = {{0, 0, -1}, {0, 0, LEAST}, {-1, 0, 1}, {0, -1, 1}, {3, 0, 1}, {0, 2, 1}, {0, 0, 3}, {2, 0, 2},
            {0, 1, 2}, {MOST, 0, 1}, {0, MOST, 1}, {1, 0, MOST}, {MOST, 0, MOST}, {1, MOST, MOST}, {LEAST, 0, 1}};
        for (int[] w : wrong) {
            dueCopy(s, x, -13, 0, w[0], 1, w[1], w[2]);
        }
        s.dueAll("elements of shelf 0", all(x, 0, 3), 1, 2, 3);
        s.dueAll("elements of shelf 1", all(x, 1, 2), 4, 5);
        s.says("from i on come to that in SHELF e from j on: n.");
        dueCopy(s, x, 2, 0, 1, 1, 0, 2);
        s.dueAll("elements of shelf 1", all(x, 1, 2), 2, 3);
        dueCopy(s, x, 1, 1, 1, 0, 0, 1);
        s.dueAll("elements of shelf 0", all(x, 0, 3), 3, 2, 3);
        x.row(5, 0, 100);
        x.row(6, 0, 100);
        x.put(5, 99, 9);
        dueCopy(s, x, 100, 5, 0, 6, 0, 100);
        s.due("element(6, 99)", x.element(6, 99), 9);
        dueCopy(s, x, -13, 5, 0, 6, 0, 101);
    }

    private static void copyOfNone(Sentences s) {
        s.says("n 0 at the end is well");
        TowThatJerks x = rows();
        dueCopy(s, x, 0, 0, 3, 1, 2, 0);
        dueCopy(s, x, 0, 0, 0, 1, 0, 0);
        dueCopy(s, x, -13, 0, 4, 1, 0, 0);
        dueCopy(s, x, -13, 0, 0, 1, 3, 0);
        dueCopy(s, x, -13, 0, -1, 1, 0, 0);
        dueCopy(s, x, -13, 0, 0, 1, -1, 0);
        x.row(4, 1, 0);
        dueCopy(s, x, 0, 4, 0, 4, 0, 0);
        dueCopy(s, x, 0, 0, 3, 4, 0, 0);
        dueCopy(s, x, -13, 4, 0, 0, 0, 1);
        dueCopy(s, x, -13, 4, 1, 0, 0, 0);
        s.dueAll("elements of shelf 1", all(x, 1, 2), 4, 5);
    }

    private static void copyOntoItself(Sentences s) {
        s.says("n elements of the ROW in SHELF d from i on");
        TowThatJerks x = new TowThatJerks();
        Checks.row(x, 0, 2, 1, 2, 3, 4, 5);
        dueCopy(s, x, 4, 0, 0, 0, 1, 4);
        s.dueAll("moved up", all(x, 0, 5), 1, 1, 2, 3, 4);
        dueCopy(s, x, 3, 0, 2, 0, 0, 3);
        s.dueAll("moved down", all(x, 0, 5), 2, 3, 4, 3, 4);
        dueCopy(s, x, 5, 0, 0, 0, 0, 5);
        s.dueAll("in its place", all(x, 0, 5), 2, 3, 4, 3, 4);
    }

    private static void duePrice(Sentences s, String text, int want) {
        TowThatJerks x = Checks.towOf(text);
        x.keep(2, 1, 0);
        s.due("price(2) of " + text, x.price(2), want);
    }

    private static void prices(Sentences s) {
        s.says("PRICE of a PIECE: PIECE its FATHOMS");
        duePrice(s, "p001;", 1);
        duePrice(s, "p0999;", 99);
        s.says("CHAFED a WIRE's less FATHOMS; RUSTED half of a CHAIN's; OLD a NYLON's by 3, cut; WORN an OLD's less 1.");
        duePrice(s, "p401;", 2);
        duePrice(s, "p501;", 25);
        duePrice(s, "p502;", 26);
        duePrice(s, "p601;", 0);
        duePrice(s, "p611;", 1);
        duePrice(s, "p631;", 1);
        duePrice(s, "p641;", 2);
        duePrice(s, "p702;", 0);
        duePrice(s, "p701;", -1);
        s.says("PRICE of the PIECE on SHELF d. -1, -11, -12 (a ROW).");
        TowThatJerks x = rows();
        for (int d : NO_SHELF) {
            s.due("price(" + d + ")", x.price(d), -1);
        }
        s.due("price(4)", x.price(4), -11);
        s.due("price(0)", x.price(0), -12);
        s.due("price(3)", x.price(3), 1);
    }

    private static void dueToss(Sentences s, String text, int k, int want) {
        TowThatJerks x = Checks.towOf(text);
        x.keep(2, 1, k);
        s.due("toss(2) of piece " + k + " of " + text, x.toss(2), want);
    }

    private static void toss(Sentences s) {
        s.says("thrown, and caught: its number (the PIECE's)");
        dueToss(s, "p011;", 0, 0);
        dueToss(s, "p011;p111;p211;p311;p691;p091;", 4, 4);
        dueToss(s, "p011;p111;p211;p311;p691;p091;", 5, 5);
        s.says("of CHAFED ones 100 more");
        dueToss(s, "p411;", 0, 100);
        dueToss(s, "p011;p111;p211;p311;p691;p491;", 5, 105);
        s.says("of WORN ones 200 plus their WEAR, in place of all that (its number, too)");
        dueToss(s, "p711;", 0, 208);
        dueToss(s, "p011;p111;p211;p311;p691;p791;", 5, 224);
        s.says("-15: RUSTED ones, and any with FIGURE 0 (WORN ones, too), have none.");
        dueToss(s, "p591;", 0, -15);
        dueToss(s, "p511;", 0, -15);
        for (int kind = 0; kind < 8; kind++) {
            dueToss(s, "p" + kind + "01;", 0, -15);
        }
        s.says("-1, -11, -12 (a ROW); -15:");
        TowThatJerks x = rows();
        for (int d : NO_SHELF) {
            s.due("toss(" + d + ")", x.toss(d), -1);
        }
        s.due("toss(4)", x.toss(4), -11);
        s.due("toss(0)", x.toss(0), -12);
        s.due("toss(3)", x.toss(3), -15);
    }
}
