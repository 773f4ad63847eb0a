/** The Terms' edges of pieces and kinds, and promises 1 and 3. */
final class EdgesOfPieces {
    private EdgesOfPieces() {
    }

    static void look(Sentences s) {
        newObject(s);
        numbersOfPieces(s);
        numbersOfKinds(s);
        fathoms(s);
        figures(s);
        hurt(s);
        parted(s);
        halves(s);
        leastOfKinds(s);
        piece(s);
    }

    private static void newObject(Sentences s) {
        s.says("No PIECES, a calm sea.");
        TowThatJerks x = new TowThatJerks();
        s.due("count(0)", x.count(0), 0);
        s.due("piece(0, 0)", x.piece(0, 0), -1);
        s.due("line(0)", x.line(0), -3);
        s.due("set(0, 5)", x.set(0, 5), 0);
    }

    private static void numbersOfPieces(Sentences s) {
        s.says("5 as they come, of KINDS");
        TowThatJerks x = s.dueTow("p001;p102;p203;p304;p405;p506;", 6);
        for (int k = 0; k < 6; k++) {
            s.due("piece(" + k + ", 0)", x.piece(k, 0), k);
            s.due("piece(" + k + ", 1)", x.piece(k, 1), k + 1);
        }
        s.due("piece(6, 0)", x.piece(6, 0), -1);
        s.due("tow('p001;') of six", Checks.read(x, "p001;"), -2000);
        s.due("count(0)", x.count(0), 6);
    }

    private static void numbersOfKinds(Sentences s) {
        s.says("7 WORN under OLD");
        s.due("piece(0, 0)", s.dueTow("p701;", 1).piece(0, 0), 7);
        s.dueTow("p801;", -2000);
        s.dueTow("p901;", -2000);
        s.says("0 PIECE; 1 WIRE under PIECE");
        s.due("piece(0, 0)", s.dueTow("p001;", 1).piece(0, 0), 0);
    }

    private static void fathoms(Sentences s) {
        s.says("FATHOMS (1 .. 99)");
        s.dueTow("p000;", -2000);
        s.due("piece(0, 1)", s.dueTow("p001;", 1).piece(0, 1), 1);
        s.due("piece(0, 1)", s.dueTow("p0099;", 1).piece(0, 1), 99);
        s.dueTow("p00100;", -2000);
        s.dueTow("p00999;", -2000);
    }

    private static void figures(Sentences s) {
        s.says("a FIGURE (0 .. 9)");
        s.due("piece(0, 2)", s.dueTow("p005;", 1).piece(0, 2), 0);
        s.due("piece(0, 2)", s.dueTow("p095;", 1).piece(0, 2), 9);
        // The signs next to 0 and 9 are no digits.
        s.dueTow("p0/5;", -1002);
        s.dueTow("p0:5;", -1002);
    }

    private static void hurt(Sentences s) {
        s.says("HURT (0 .. 999; 0 at first)");
        TowThatJerks x = s.dueTow("p1010;p4110;s20 40;v0;", 4);
        s.due("piece(1, 7)", x.piece(1, 7), 0);
        x.tenth();
        s.due("piece(1, 7)", x.piece(1, 7), 3);
        Checks.read(x, "p4110;");
        s.due("piece(2, 7) of one that came later", x.piece(2, 7), 0);
        // One in the place of another that was hurt, in mind too, is not.
        x.image();
        Checks.read(x, "p415;s60 40;");
        s.due("holds(1, 0)", x.holds(1, 0), 1);
        x.tenth();
        s.due("piece(3, 7)", x.piece(3, 7), 3);
        x.restore();
        Checks.read(x, "p415;");
        s.due("piece(3, 7)", x.piece(3, 7), 0);
    }

    private static void parted(Sentences s) {
        s.says("PARTED or not");
        TowThatJerks x = s.dueTow("p7010;v9;", 2);
        s.due("piece(0, 8)", x.piece(0, 8), 0);
        x.tenth();
        s.due("piece(0, 8)", x.piece(0, 8), 1);
    }

    private static int told(String text, int what) {
        return Checks.towOf(text).piece(0, what);
    }

    private static void halves(Sentences s) {
        s.says("OLD half of a NYLON's");
        s.due("piece(0, 4), half of 40", told("p601;", 4), 20);
        s.due("piece(0, 4), half of 41", told("p611;", 4), 20);
        s.due("piece(0, 4), half of 49", told("p691;", 4), 24);
        s.says("WORN half of an OLD's");
        s.due("piece(0, 5), half of 250", told("p701;", 5), 125);
        s.due("piece(0, 5), half of 245", told("p711;", 5), 122);
        s.due("piece(0, 5), half of 205", told("p791;", 5), 102);
    }

    private static void leastOfKinds(Sentences s) {
        s.says("CHAIN three times a PIECE's and FIGURE");
        s.due("piece(0, 3)", told("p201;", 3), 6);
        s.due("piece(0, 3)", told("p291;", 3), 15);
        s.says("CHAIN a PIECE's less 1;");
        s.due("piece(0, 6)", told("p291;", 6), 0);
        // A chain is never hurt, though it jerks: apart 20, slack 3, base 6, give 1.
        TowThatJerks chain = Checks.towOf("p2010;s40 40;v0;");
        s.due("tenth()", chain.tenth(), 6 + 20 * 17);
        s.due("count(3)", chain.count(3), 1);
        s.due("piece(0, 7)", chain.piece(0, 7), 0);
        s.says("CHAFED a WIRE's less 20 FIGURE");
        s.due("piece(0, 5)", told("p401;", 5), 500);
        s.due("piece(0, 5)", told("p491;", 5), 320);
        s.says("WORN twice an OLD's");
        s.due("piece(0, 6)", told("p701;", 6), 6);
        s.due("piece(0, 6)", told("p791;", 6), 24);
    }

    private static void piece(Sentences s) {
        s.says("Of a PIECE: 0 KIND, 1 FATHOMS, 2 FIGURE, 3 HEFT, 4 GIVE, 5 STRENGTH, 6 WEAR, 7 HURT, 8 1 if PARTED. -1.");
        TowThatJerks x = Checks.towOf("p3912;p5534;");
        int[][] want = {{3, 12, 9, 1, 49, 250, 3, 0, 0}, {5, 34, 5, 10, 2, 550, 1, 0, 0}};
        for (int k = 0; k < 2; k++) {
            for (int what = 0; what < 9; what++) {
                s.due("piece(" + k + ", " + what + ")", x.piece(k, what), want[k][what]);
            }
        }
        int[][] wrong = {{-1, 0}, {2, 0}, {6, 0}, {0, -1}, {0, 9}, {Integer.MIN_VALUE, 0}, {0, Integer.MAX_VALUE}};
        for (int[] w : wrong) {
            s.due("piece(" + w[0] + ", " + w[1] + ")", x.piece(w[0], w[1]), -1);
        }
    }
}
