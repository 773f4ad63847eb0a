/** Promises 1 to 5: a new object, tows as texts, pieces, what is set, the line. */
public final class TowsTest {
    private static final Checks C = new Checks("TowsTest");
    private static final int[] FIRST = {0, 20, 4, 300, 3, 0, 0};
    private static final int[] LEAST = {0, 4, 0, 1, 0, 0, 0};
    private static final int[] MOST = {60, 40, 9, 999, 9, 9, 9};

    public static void main(String[] args) {
        newObject();
        statements();
        faultsOfKindOne();
        faultsOfKindTwo();
        roomForPieces();
        faultBringsNothing();
        wholeShelf();
        refusalsOfTow();
        kindsOfPieces();
        refusalsOfPiece();
        settings();
        lineOfAll();
        C.end();
    }

    private static void newObject() {
        TowThatJerks x = new TowThatJerks();
        for (int what = 0; what <= 4; what++) {
            C.due("new: count(" + what + ")", x.count(what), 0);
        }
        C.due("new: yaw(0)", x.yaw(0), 0);
        C.due("new: yaw(1)", x.yaw(1), 0);
        for (int d = 0; d < 8; d++) {
            C.due("new: put(" + d + ", 0, 0)", x.put(d, 0, 0), -11);
        }
        C.due("new: restore()", x.restore(), -3);
        C.due("new: line(0)", x.line(0), -3);
        dueSettings("new", x, FIRST);
    }

    /** Puts the first numbers in their place, so it comes last in a case. */
    private static void dueSettings(String when, TowThatJerks x, int... want) {
        for (int what = 0; what < 7; what++) {
            C.due(when + ": set(" + what + ", ..)", x.set(what, FIRST[what]), want[what]);
        }
    }

    private static void statements() {
        TowThatJerks x = new TowThatJerks();
        C.due("tow of six", Checks.read(x, "p1312;s30 10;v5;d77;y123;a-45;"), 6);
        C.due("its piece's kind", x.piece(0, 0), 1);
        C.due("its piece's fathoms", x.piece(0, 1), 12);
        C.due("its piece's figure", x.piece(0, 2), 3);
        C.due("its angle", x.yaw(0), -45);
        C.due("its text stays", x.element(7, 0), 'p');
        x.yaws(3);
        int swing = x.yaw(1);
        C.due("an angle more", Checks.read(x, "a+7;a-0;a+999;"), 3);
        C.due("the last one counts", x.yaw(0), 999);
        C.due("swing is as it was", x.yaw(1), swing);
        dueSettings("six statements", x, 30, 10, 5, 77, 1, 2, 3);
        C.due("least numbers", Checks.read(x, "p001;s0 4;v0;d1;y000;a-0;"), 6);
        C.due("pieces come behind those that are", x.piece(1, 1), 1);
        C.due("minus nothing", x.yaw(0), 0);
        dueSettings("least numbers", x, 0, 4, 0, 1, 0, 0, 0);
        C.due("greatest numbers", Checks.read(x, "p7999;s60 40;v9;d999;y999;a-999;"), 6);
        C.due("greatest fathoms", x.piece(2, 1), 99);
        dueSettings("greatest numbers", x, 60, 40, 9, 999, 9, 9, 9);
    }

    private static void dueFault(String text, int want) {
        TowThatJerks x = new TowThatJerks();
        C.due("tow '" + text + "'", Checks.read(x, text), want);
        C.due("pieces of '" + text + "'", x.count(0), 0);
    }

    private static void faultsOfKindOne() {
        dueFault("", -1000);
        dueFault("x", -1000);
        dueFault(" v3;", -1000);
        dueFault("V3;", -1000);
        dueFault(";", -1000);
        dueFault("p", -1001);
        dueFault("p1", -1002);
        dueFault("p10", -1003);
        dueFault("p105", -1004);
        dueFault("px", -1001);
        dueFault("p1x", -1002);
        dueFault("p10;", -1003);
        dueFault("p10x;", -1003);
        dueFault("p1005;", -1004);
        dueFault("p109999;", -1006);
        dueFault("v;", -1001);
        dueFault("v10;", -1002);
        dueFault("v3;;", -1003);
        dueFault("v3; v4;", -1003);
        dueFault("v3;v", -1004);
        dueFault("s5;", -1002);
        dueFault("s5 ;", -1003);
        dueFault("s5  4;", -1003);
        dueFault("s5 4 ;", -1004);
        dueFault("s05 4;", -1002);
        dueFault("s5 04;", -1004);
        dueFault("s1000 4;", -1004);
        dueFault("y12;", -1003);
        dueFault("y1234;", -1004);
        dueFault("a5;", -1001);
        dueFault("a+;", -1002);
        dueFault("a+-5;", -1002);
        dueFault("a+1", -1003);
        dueFault("a+00;", -1003);
        dueFault("d01;", -1002);
        dueFault("d-1;", -1001);
        dueFault("d1000;", -1004);
        TowThatJerks x = new TowThatJerks();
        Checks.row(x, 7, 0, 'v', '3' + 128, ';');
        C.due("a byte below 0", x.tow(7), -1001);
    }

    private static void faultsOfKindTwo() {
        dueFault("p000;", -2000);
        dueFault("p00100;", -2000);
        dueFault("p00999;", -2000);
        dueFault("p8010;", -2000);
        dueFault("p9010;", -2000);
        dueFault("s61 20;", -2000);
        dueFault("s999 20;", -2000);
        dueFault("s60 3;", -2000);
        dueFault("s60 0;", -2000);
        dueFault("s60 41;", -2000);
        dueFault("d0;", -2000);
        dueFault("v3;d0;", -2003);
        dueFault("v3;d0;s99 9;", -2003);
        dueFault("d0;v", -1004);
        dueFault("d0;v33;", -1005);
        dueFault("d0;z", -1003);
    }

    private static void roomForPieces() {
        TowThatJerks x = new TowThatJerks();
        C.due("seven pieces", Checks.read(x, "p001;p001;p001;p001;p001;p001;p001;"), -2030);
        C.due("none came", x.count(0), 0);
        C.due("four pieces", Checks.read(x, "p001;p001;p001;p001;"), 4);
        C.due("three more", Checks.read(x, "p001;p001;p001;"), -2010);
        C.due("still four", x.count(0), 4);
        C.due("two more", Checks.read(x, "p001;p001;"), 2);
        C.due("six", x.count(0), 6);
        C.due("one more", Checks.read(x, "v1;p001;"), -2003);
    }

    private static void faultBringsNothing() {
        TowThatJerks x = new TowThatJerks();
        C.due("the last can't be done", Checks.read(x, "v9;p001;a+9;y789;s9 9;d0;"), -2022);
        C.due("no angle", x.yaw(0), 0);
        C.due("no pieces", x.count(0), 0);
        dueSettings("a fault of kind 2", x, FIRST);
        C.due("the last can't go on", Checks.read(x, "v9;p001;a+9;d5"), -1014);
        C.due("no angle", x.yaw(0), 0);
        C.due("no pieces", x.count(0), 0);
        dueSettings("a fault of kind 1", x, FIRST);
    }

    private static void wholeShelf() {
        StringBuilder text = new StringBuilder();
        for (int i = 0; i < 33; i++) {
            text.append("v3;");
        }
        TowThatJerks x = new TowThatJerks();
        C.due("33 statements", Checks.read(x, text.toString()), 33);
        C.due("a hundred bytes that end too early", Checks.read(x, text.append('v').toString()), -1100);
        C.due("a hundred bytes", Checks.read(x, text.substring(0, 96) + "d12;"), 33);
    }

    private static void refusalsOfTow() {
        TowThatJerks x = Checks.towOf("p001;");
        C.due("tow(-1)", x.tow(-1), -1);
        C.due("tow(8)", x.tow(8), -1);
        C.due("tow of nothing", x.tow(0), -11);
        x.keep(1, 1, 0);
        C.due("tow of a piece", x.tow(1), -12);
        Checks.row(x, 2, 1, 'v', '3', ';');
        C.due("tow of shorts", x.tow(2), -12);
        Checks.row(x, 3, 2, 'v', '3', ';');
        C.due("tow of ints", x.tow(3), -12);
    }

    /** Heft, give, strength and wear of each kind. */
    private static void duePieces(int figure, int[][] want) {
        for (int kind = 0; kind < 8; kind++) {
            TowThatJerks x = Checks.towOf("p" + kind + figure + "7;");
            String whose = "kind " + kind + ", figure " + figure;
            C.dueAll(whose, all(x, 0), kind, 7, figure, want[kind][0], want[kind][1], want[kind][2],
                    want[kind][3], 0, 0);
        }
    }

    private static long[] all(TowThatJerks x, int piece) {
        long[] told = new long[9];
        for (int what = 0; what < 9; what++) {
            told[what] = x.piece(piece, what);
        }
        return told;
    }

    private static void kindsOfPieces() {
        duePieces(0, new int[][] {{2, 4, 300, 1}, {4, 2, 500, 1}, {6, 1, 600, 0}, {1, 40, 250, 3},
            {4, 2, 500, 3}, {5, 2, 600, 1}, {2, 20, 250, 3}, {2, 15, 125, 6}});
        duePieces(5, new int[][] {{2, 4, 300, 1}, {4, 2, 500, 1}, {11, 1, 600, 0}, {1, 45, 250, 3},
            {4, 2, 400, 3}, {10, 2, 550, 1}, {2, 22, 225, 8}, {2, 17, 112, 16}});
        duePieces(9, new int[][] {{2, 4, 300, 1}, {4, 2, 500, 1}, {15, 1, 600, 0}, {1, 49, 250, 3},
            {4, 2, 320, 3}, {14, 2, 510, 1}, {2, 24, 205, 12}, {2, 19, 102, 24}});
    }

    private static void refusalsOfPiece() {
        TowThatJerks x = new TowThatJerks();
        C.due("piece of none", x.piece(0, 0), -1);
        Checks.read(x, "p001;p101;");
        C.due("piece(-1, 0)", x.piece(-1, 0), -1);
        C.due("piece(2, 0)", x.piece(2, 0), -1);
        C.due("piece(1, 0)", x.piece(1, 0), 1);
        C.due("piece(0, -1)", x.piece(0, -1), -1);
        C.due("piece(0, 9)", x.piece(0, 9), -1);
    }

    private static void settings() {
        TowThatJerks x = new TowThatJerks();
        for (int what = 0; what < 7; what++) {
            String which = "set(" + what + ", ";
            C.due(which + "most)", x.set(what, MOST[what]), FIRST[what]);
            C.due(which + "above)", x.set(what, MOST[what] + 1), -1);
            C.due(which + "least)", x.set(what, LEAST[what]), MOST[what]);
            C.due(which + "below)", x.set(what, LEAST[what] - 1), -1);
            C.due(which + "again)", x.set(what, LEAST[what]), LEAST[what]);
        }
        C.due("set(-1, 5)", x.set(-1, 5), -1);
        C.due("set(7, 5)", x.set(7, 5), -1);
    }

    private static void dueLine(String text, int... want) {
        TowThatJerks x = Checks.towOf(text);
        for (int what = 0; what < 6; what++) {
            C.due("line(" + what + ") of " + text, x.line(what), want[what]);
        }
    }

    private static void lineOfAll() {
        dueLine("p1530;p3940;", 70, 160, 20, 8, 2, 48);
        dueLine("p1530;p3940;v0;", 70, 160, 20, 40, 10, 16);
        dueLine("p1530;p3940;v9;", 70, 160, 20, 1, 0, 178);
        // Give is 1 at least, and is cut of all pieces together.
        dueLine("p2099;v1;", 99, 594, 1, 118, 29, 61);
        dueLine("p0024;p0024;p002;", 50, 100, 2, 5, 1, 42);
        dueLine("p2099;p2098;p101;v0;", 198, 1186, 1, 296, 74, 118);
        TowThatJerks none = new TowThatJerks();
        C.due("line(-1)", none.line(-1), -1);
        C.due("line(6)", none.line(6), -1);
        C.due("line(5)", none.line(5), -3);
    }
}
