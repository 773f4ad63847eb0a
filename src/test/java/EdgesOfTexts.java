/** The edges of tows as texts: section 2 of the document and promise 2. */
final class EdgesOfTexts {
    private EdgesOfTexts() {
    }

    static void look(Sentences s) {
        behindEach(s);
        pieces(s);
        seas(s);
        paces(s);
        depths(s);
        yaws(s);
        angles(s);
        numbers(s);
        atLeastOne(s);
        kindOne(s);
        kindTwo(s);
        whichGoesAhead(s);
        oneBehindTheOther(s);
        allOrNothing(s);
        stays(s);
        refusals(s);
    }

    private static void behindEach(Sentences s) {
        s.says("STATEMENTS, each with ; behind");
        s.dueTow("v3;", 1);
        s.dueTow("v3", -1002);
        s.dueTow("v3:", -1002);
        s.dueTow("v3;;", -1003);
        s.dueTow(";", -1000);
        s.dueTow(";v3;", -1000);
        s.dueTow("v3;v4", -1005);
        s.dueTow("v3 ;", -1002);
        s.dueTow("v3; v4;", -1003);
    }

    private static void pieces(Sentences s) {
        s.says("p, KIND, FIGURE (digits), FATHOMS: a PIECE more");
        s.dueTow("p", -1001);
        s.dueTow("p;", -1001);
        s.dueTow("p1", -1002);
        s.dueTow("p1;", -1002);
        s.dueTow("p10", -1003);
        s.dueTow("p10;", -1003);
        s.dueTow("p105", -1004);
        s.dueTow("p1 05;", -1002);
        s.dueTow("p-105;", -1001);
        s.dueTow("P105;", -1000);
        s.due("count(0)", s.dueTow("p105;", 1).count(0), 1);
        s.due("count(0)", s.dueTow("p105;p105;", 2).count(0), 2);
    }

    private static void seas(Sentences s) {
        s.says("s, HEIGHT, a blank, LENGTH");
        s.dueTow("s", -1001);
        s.dueTow("s ", -1001);
        s.dueTow("s5", -1002);
        s.dueTow("s5;", -1002);
        s.dueTow("s5\t6;", -1002);
        s.dueTow("s5 ", -1003);
        s.dueTow("s5 ;", -1003);
        s.dueTow("s5  6;", -1003);
        s.dueTow("s5 6", -1004);
        s.dueTow("s5 6 ;", -1004);
        TowThatJerks least = s.dueTow("s0 4;", 1);
        s.due("set(0, 9)", least.set(0, 9), 0);
        s.due("set(1, 9)", least.set(1, 9), 4);
        TowThatJerks most = s.dueTow("s60 40;", 1);
        s.due("set(0, 9)", most.set(0, 9), 60);
        s.due("set(1, 9)", most.set(1, 9), 40);
        s.dueTow("s61 20;", -2000);
        s.dueTow("s999 20;", -2000);
        s.dueTow("s60 3;", -2000);
        s.dueTow("s60 0;", -2000);
        s.dueTow("s60 41;", -2000);
        s.dueTow("s60 999;", -2000);
    }

    private static void paces(Sentences s) {
        s.says("v, PACE (a digit)");
        s.dueTow("v", -1001);
        s.dueTow("v;", -1001);
        s.dueTow("v/;", -1001);
        s.dueTow("v:;", -1001);
        s.dueTow("v10;", -1002);
        s.dueTow("v00;", -1002);
        s.due("set(2, 5)", s.dueTow("v0;", 1).set(2, 5), 0);
        s.due("set(2, 5)", s.dueTow("v9;", 1).set(2, 5), 9);
    }

    private static void depths(Sentences s) {
        s.says("d, DEPTH;");
        s.dueTow("d", -1001);
        s.dueTow("d0;", -2000);
        s.due("set(3, 5)", s.dueTow("d1;", 1).set(3, 5), 1);
        s.due("set(3, 5)", s.dueTow("d999;", 1).set(3, 5), 999);
        s.dueTow("d1000;", -1004);
    }

    private static void yaws(Sentences s) {
        s.says("y, POINT, RUDDER, DROGUE (digits)");
        s.dueTow("y", -1001);
        s.dueTow("y;", -1001);
        s.dueTow("y1;", -1002);
        s.dueTow("y12;", -1003);
        s.dueTow("y123", -1004);
        s.dueTow("y1234;", -1004);
        s.dueTow("y1 2;", -1002);
        int[] wants = {0, 9};
        for (int want : wants) {
            TowThatJerks x = s.dueTow("y" + want + want + want + ";", 1);
            for (int what = 4; what < 7; what++) {
                s.due("set(" + what + ", 5)", x.set(what, 5), want);
            }
        }
    }

    private static void angles(Sentences s) {
        s.says("a, + or -, ANGLE (0 .. 999)");
        s.dueTow("a", -1001);
        s.dueTow("a5;", -1001);
        s.dueTow("a;", -1001);
        s.dueTow("a+", -1002);
        s.dueTow("a+;", -1002);
        s.dueTow("a+-5;", -1002);
        s.dueTow("a,5;", -1001);
        s.dueTow("a+1000;", -1005);
        s.due("yaw(0)", s.dueTow("a+0;", 1).yaw(0), 0);
        s.due("yaw(0)", s.dueTow("a-0;", 1).yaw(0), 0);
        s.due("yaw(0)", s.dueTow("a+999;", 1).yaw(0), 999);
        s.due("yaw(0)", s.dueTow("a-999;", 1).yaw(0), -999);
    }

    private static void numbers(Sentences s) {
        s.says("Numbers have 1 to 3 digits");
        s.dueTow("d;", -1001);
        s.dueTow("d5;", 1);
        s.dueTow("d55;", 1);
        s.dueTow("d555;", 1);
        s.dueTow("d5555;", -1004);
        s.dueTow("p005555;", -1006);
        s.dueTow("s5555 4;", -1004);
        s.dueTow("s5 5555;", -1006);
        s.says("no 0 ahead of another");
        s.dueTow("d05;", -1002);
        s.dueTow("d00;", -1002);
        s.dueTow("p0001;", -1004);
        s.dueTow("s00 4;", -1002);
        s.dueTow("s0 04;", -1004);
        s.dueTow("a-00;", -1003);
        // One that isn't ahead is well.
        s.dueTow("d100;s10 10;p0010;a-100;", 4);
    }

    private static void atLeastOne(Sentences s) {
        s.says("At least one STATEMENT.");
        s.dueTow("", -1000);
        s.dueTow("v3;", 1);
    }

    private static void kindOne(Sentences s) {
        s.says("kind 1 the place of the first byte with which no TOW can go on (the size, if it ends too early)");
        s.dueTow("x", -1000);
        s.dueTow("v3;x", -1003);
        s.dueTow("v3;v", -1004);
        s.dueTow("v3;d5x;x", -1005);
        TowThatJerks x = new TowThatJerks();
        int[] odd = {0, -1, -128, 127, '3' - 128};
        for (int b : odd) {
            Checks.row(x, 7, 0, 'v', b, ';');
            s.due("tow(7) of a byte " + b, x.tow(7), -1001);
        }
        // A new row is of zeros, which are no text.
        x.row(7, 0, 100);
        s.due("tow(7) of zeros", x.tow(7), -1000);
        StringBuilder full = new StringBuilder();
        for (int i = 0; i < 33; i++) {
            full.append("v3;");
        }
        s.dueTow(full.toString(), 33);
        s.dueTow(full + "v", -1100);
        s.dueTow(full + "x", -1099);
        s.dueTow(full.substring(0, 96) + "d12;", 33);
    }

    private static void kindTwo(Sentences s) {
        s.says("kind 2 the place of the letter of the first STATEMENT that isn't as told (a number out of range, no room)");
        s.dueTow("d0;", -2000);
        s.dueTow("v3;d0;", -2003);
        s.dueTow("v3;d0;s61 4;d0;", -2003);
        s.dueTow("v3;s5 3;d0;", -2003);
        s.dueTow("p001;p001;p001;p001;p001;p001;p001;", -2030);
        s.dueTow("p001;p001;p001;p001;p001;p001;d0;p001;", -2030);
        s.dueTow("p001;p001;p001;p001;p001;p001;", 6);
    }

    private static void whichGoesAhead(Sentences s) {
        s.says("kind 1 (of any place) goes ahead of kind 2");
        s.dueTow("d0;x", -1003);
        s.dueTow("d0;v", -1004);
        s.dueTow("d0;v3", -1005);
        s.dueTow("p001;p001;p001;p001;p001;p001;p001;v", -1036);
    }

    private static void oneBehindTheOther(Sentences s) {
        s.says("STATEMENTS are tried one behind the other, each on what those ahead of it made");
        TowThatJerks x = s.dueTow("p001;p001;p001;p001;p001;", 5);
        s.due("tow('p001;p001;')", Checks.read(x, "p001;p001;"), -2005);
        s.due("count(0)", x.count(0), 5);
        s.due("tow('v1;p001;v2;')", Checks.read(x, "v1;p001;v2;"), 3);
        s.due("set(2, 0)", x.set(2, 0), 2);
        s.due("tow('v1;p001;')", Checks.read(x, "v1;p001;"), -2003);
        s.due("count(0)", x.count(0), 6);
    }

    private static void allOrNothing(Sentences s) {
        s.says("Without FAULT all of it comes; with one nothing.");
        String good = "p1234;s9 9;v9;d9;y789;a+9;";
        String[] faults = {"d0;", "x", "d"};
        for (String fault : faults) {
            TowThatJerks x = new TowThatJerks();
            long[] before = View.of(x);
            s.due("tow('" + good + fault + "') is refused", Checks.read(x, good + fault) < 0 ? 1 : 0, 1);
            s.dueAll("all behind it", View.of(x), before);
        }
        TowThatJerks x = s.dueTow(good, 6);
        s.due("piece(0, 1)", x.piece(0, 1), 34);
        s.due("yaw(0)", x.yaw(0), 9);
        int[] want = {9, 9, 9, 9, 7, 8, 9};
        for (int what = 0; what < 7; what++) {
            s.due("set(" + what + ", 5)", x.set(what, 5), want[what]);
        }
    }

    private static void stays(Sentences s) {
        s.says("The ROW that is read, and what is taken from a SHELF, stay there");
        TowThatJerks x = new TowThatJerks();
        Checks.text(x, 0, "p105;");
        for (int k = 1; k <= 6; k++) {
            s.due("tow(0)", x.tow(0), 1);
            s.due("count(0)", x.count(0), k);
        }
        s.due("tow(0)", x.tow(0), -2000);
        s.due("element(0, 4)", x.element(0, 4), ';');
        x.keep(1, 1, 5);
        s.due("price(1)", x.price(1), 15);
        s.due("price(1)", x.price(1), 15);
        Checks.row(x, 2, 0, 5, 0, 3);
        s.due("legs(2, 1)", x.legs(2, 1), 5);
        s.due("legs(2, 1)", x.legs(2, 1), 5);
    }

    private static void refusals(Sentences s) {
        s.says("how many STATEMENTS; the FAULT. -1, -11, -12 (no ROW of bytes).");
        TowThatJerks x = Checks.towOf("p001;");
        int[] noShelf = {-1, 8, Integer.MIN_VALUE, Integer.MAX_VALUE};
        for (int d : noShelf) {
            s.due("tow(" + d + ")", x.tow(d), -1);
        }
        for (int d = 0; d < 7; d++) {
            s.due("tow(" + d + ")", x.tow(d), -11);
        }
        x.keep(0, 1, 0);
        s.due("tow(0) of a piece", x.tow(0), -12);
        Checks.row(x, 0, 1, 'v', '3', ';');
        s.due("tow(0) of shorts", x.tow(0), -12);
        Checks.row(x, 0, 2, 'v', '3', ';');
        s.due("tow(0) of ints", x.tow(0), -12);
        Checks.row(x, 0, 0, 'v', '3', ';');
        s.due("tow(0) of bytes", x.tow(0), 1);
    }
}
