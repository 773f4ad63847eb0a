/** The edges of what is reckoned in mind of tenths, and promises 9 to 14. */
final class EdgesInMind {
    /** Tenths 0, 20, .. pull 308; fifteen of twenty jerk; the chafed one (480) is hurt by 3 each: it parts in 80. */
    private static final String CHAFES = "p1010;p4110;s20 40;v0;";
    /** Slack 2, base 3, give 14, apart 20 at most: 28. */
    private static final String NYLON = "p3035;s40 20;v0;";

    private EdgesInMind() {
    }

    static void look(Sentences s) {
        nothingStays(s);
        greatest(s);
        when(s);
        holds(s);
        fastest(s);
        longer(s);
        stock(s);
        stockOfParted(s);
        bridge(s);
    }

    private static void nothingStays(Sentences s) {
        s.says("In mind (nothing stays)");
        TowThatJerks x = Checks.towOf(CHAFES + "a-300;d10;");
        x.tenth();
        x.yaws(2);
        Checks.row(x, 0, 0, 5, 60, 9);
        Checks.row(x, 1, 2, 1, 2, 3);
        long[] before = View.of(x);
        x.greatest(0);
        x.greatest(1);
        x.holds(400, 1);
        x.fastest(400);
        x.longer(0, 0);
        x.stock(999, 0);
        x.bridge(2, 99);
        x.takeIn();
        x.shallowest();
        x.odds(20, 1);
        x.swings(400, 1);
        x.grows();
        x.held();
        x.renders(5);
        x.winch(0);
        for (int what = 0; what < 3; what++) {
            x.legs(0, what);
        }
        x.caravan(9);
        x.judge(1);
        s.dueAll("all behind it", View.of(x), before);
        s.due("tenth()", x.tenth(), 268);
    }

    private static void greatest(Sentences s) {
        s.says("the greatest PULL of tenths 0 to LENGTH less 1, as PIECES are told (nothing parts)");
        TowThatJerks x = Checks.towOf("p1010;p4110;s60 40;v0;");
        s.due("greatest(0) above all strength", x.greatest(0), 1108);
        s.due("count(1)", x.count(1), 0);
        s.due("greatest(0) of pulls of 0", Checks.towOf("p301;v0;").greatest(0), 0);
        // It goes by the tenths of the sea, not by that now.
        TowThatJerks later = Checks.towOf("p3040;p3981;s59 4;v9;");
        int most = later.greatest(0);
        later.tenth();
        later.tenth();
        s.due("greatest(0) two tenths later", later.greatest(0), most);
        s.says("GREATEST (what 0), WHEN (1). -1; -3.");
        s.due("greatest(-1)", x.greatest(-1), -1);
        s.due("greatest(2)", x.greatest(2), -1);
        s.due("greatest(0)", new TowThatJerks().greatest(0), -3);
    }

    private static void when(Sentences s) {
        s.says("WHEN: the least tenth of these with it");
        s.due("greatest(1) of a calm sea", Checks.towOf("p301;v0;").greatest(1), 0);
        // Rises 0, 29, 59, 29.
        s.due("greatest(1) of 29, 30, 30, 29", Checks.towOf("p301;s59 4;v9;").greatest(1), 1);
        s.due("greatest(1) of 29, 29, 30, 30", Checks.towOf("p303;s59 4;v9;").greatest(1), 2);
        s.due("greatest(0) of 29, 29, 30, 30", Checks.towOf("p303;s59 4;v9;").greatest(0), 162 + 600);
    }

    private static void holds(Sentences s) {
        TowThatJerks x = Checks.towOf(CHAFES);
        s.says("in n (0 .. 400) TENTHS from now on");
        s.due("holds(-1, 0)", x.holds(-1, 0), -1);
        s.due("holds(0, 0)", x.holds(0, 0), 1);
        s.due("holds(80, 0)", x.holds(80, 0), 1);
        s.due("holds(81, 0)", x.holds(81, 0), 0);
        s.due("holds(400, 0)", x.holds(400, 0), 0);
        s.due("holds(401, 0)", x.holds(401, 0), -1);
        s.says("the tenth (counted from now, the first one 0) in which one parts; which; -4");
        s.due("holds(0, 1)", x.holds(0, 1), -4);
        s.due("holds(80, 1)", x.holds(80, 1), -4);
        s.due("holds(80, 2)", x.holds(80, 2), -4);
        s.due("holds(81, 1)", x.holds(81, 1), 80);
        s.due("holds(81, 2)", x.holds(81, 2), 1);
        TowThatJerks at = Checks.towOf("p7010;v9;");
        s.due("holds(0, 2)", at.holds(0, 2), -4);
        s.due("holds(1, 1)", at.holds(1, 1), 0);
        s.due("holds(1, 2)", at.holds(1, 2), 0);
        s.says("(the tenth's number going on)");
        for (int i = 0; i < 23; i++) {
            x.tenth();
        }
        s.due("holds(57, 0)", x.holds(57, 0), 1);
        s.due("holds(58, 1)", x.holds(58, 1), 57);
        s.says("the tenth (1; -4), the PIECE (2; -4). -1; -3.");
        s.due("holds(5, -1)", x.holds(5, -1), -1);
        s.due("holds(5, 3)", x.holds(5, 3), -1);
        s.due("holds(0, 0)", new TowThatJerks().holds(0, 0), -3);
    }

    private static void fastest(Sentences s) {
        s.says("FASTEST: the greatest PACE by which nothing parts in n TENTHS; -4.");
        // Heft 20; twice 49 and 2 are 100, twice 64 and 2 are 130, its strength is 125.
        TowThatJerks x = Checks.towOf("p7010;v9;");
        s.due("fastest(1)", x.fastest(1), 7);
        s.due("fastest(400)", x.fastest(400), 7);
        s.due("fastest(0)", x.fastest(0), 9);
        s.due("fastest(1) of a strong one", Checks.towOf("p2010;v0;").fastest(1), 9);
        // Base 124 at pace 0, 126 at pace 1, and a strength of 125.
        s.due("fastest(1) at no pace but 0", Checks.towOf("p7016;p2978;p4010;").fastest(1), 0);
        s.due("fastest(1) at none", Checks.towOf("p7010;p2999;").fastest(1), -4);
        s.says("FASTEST; -4. -1; -3.");
        s.due("fastest(-1)", x.fastest(-1), -1);
        s.due("fastest(401)", x.fastest(401), -1);
        s.due("fastest(0)", new TowThatJerks().fastest(0), -3);
    }

    private static void longer(Sentences s) {
        s.says("LONGER: the least n (0 .. 99) FATHOMS more of a PIECE by which GREATEST is no more than told; -4.");
        TowThatJerks x = Checks.towOf(NYLON);
        s.due("longer(0, 28)", x.longer(0, 28), 0);
        s.due("longer(0, 27)", x.longer(0, 27), 1);
        s.due("longer(0, 5)", x.longer(0, 5), 4);
        s.due("longer(0, 4)", x.longer(0, 4), 5);
        s.due("longer(0, 3)", x.longer(0, 3), -4);
        // The most that any tow can ask: 40 fathoms are a whole sea, and later its base is greater alone.
        TowThatJerks most = Checks.towOf("p301;s60 40;v9;");
        s.due("longer(0, 166)", most.longer(0, 166), 39);
        s.due("longer(0, 165)", most.longer(0, 165), -4);
        // The piece has 115 fathoms then: apart 10, slack 7, give 46, base 11.
        s.due("longer(0, 12) of 99", Checks.towOf("p3099;s40 40;v0;").longer(0, 12), 16);
        s.says("LONGER by a PULL (0 .. 9999); -4. -1; -3.");
        s.due("longer(0, -1)", x.longer(0, -1), -1);
        s.due("longer(0, 0)", x.longer(0, 0), -4);
        s.due("longer(0, 9999)", x.longer(0, 9999), 0);
        s.due("longer(0, 10000)", x.longer(0, 10000), -1);
        s.due("longer(-1, 5)", x.longer(-1, 5), -1);
        s.due("longer(1, 5)", x.longer(1, 5), -1);
        s.due("longer(0, 0) of pulls of 0", Checks.towOf("p301;v0;").longer(0, 0), 0);
        TowThatJerks parted = Checks.towOf("p7010;v9;");
        parted.tenth();
        s.due("longer(0, 5)", parted.longer(0, 5), -3);
    }

    private static void stock(Sentences s) {
        s.says("of all sets of PIECES (not none;");
        s.due("stock(999, 0)", new TowThatJerks().stock(999, 0), -4);
        s.due("stock(999, 1)", new TowThatJerks().stock(999, 1), -4);
        s.says("whose FATHOMS together are no more than told that with the least GREATEST");
        // By one to six of them: 150, 151, 151, 149, 90, 51.
        TowThatJerks six = Checks.towOf("p305;p305;p305;p305;p305;p305;s60 40;v0;");
        s.due("stock(30, 0)", six.stock(30, 0), 63);
        s.due("stock(30, 1)", six.stock(30, 1), 51);
        s.due("stock(29, 0)", six.stock(29, 0), 31);
        s.due("stock(29, 1)", six.stock(29, 1), 90);
        s.due("stock(5, 0)", six.stock(5, 0), 1);
        s.due("stock(4, 0)", six.stock(4, 0), -4);
        s.due("stock(4, 1)", six.stock(4, 1), -4);
        TowThatJerks last = Checks.towOf("p2099;p2099;p2099;p2099;p2099;p301;");
        s.due("stock(999, 0) of the last alone", last.stock(999, 0), 32);
        s.says("of several the least as bits; -4.");
        TowThatJerks same = Checks.towOf("p1010;p1010;p1010;");
        s.due("stock(999, 0)", same.stock(999, 0), 1);
        s.due("stock(10, 0)", same.stock(10, 0), 1);
        s.due("stock(9, 0)", same.stock(9, 0), -4);
        s.says("STOCK by FATHOMS (1 .. 999; no LINE is wanted): the bits (what 0), GREATEST (1); -4. -1.");
        TowThatJerks one = Checks.towOf("p301;v0;");
        s.due("stock(0, 0)", one.stock(0, 0), -1);
        s.due("stock(1, 0)", one.stock(1, 0), 1);
        s.due("stock(999, 0)", one.stock(999, 0), 1);
        s.due("stock(1000, 0)", one.stock(1000, 0), -1);
        s.due("stock(1, 1)", one.stock(1, 1), 0);
        s.due("stock(1, -1)", one.stock(1, -1), -1);
        s.due("stock(1, 2)", one.stock(1, 2), -1);
    }

    private static void stockOfParted(Sentences s) {
        s.says("of those that are not PARTED)");
        TowThatJerks x = Checks.towOf("p7010;p1010;v9;");
        s.due("stock(999, 0)", x.stock(999, 0), 1);
        x.tenth();
        s.due("stock(999, 0)", x.stock(999, 0), 2);
        s.due("stock(999, 1)", x.stock(999, 1), 166);
        TowThatJerks alone = Checks.towOf("p7010;v9;");
        alone.tenth();
        s.due("stock(999, 0)", alone.stock(999, 0), -4);
    }

    private static void bridge(Sentences s) {
        s.says("with a PIECE more of a KIND with FATHOMS (FIGURE 0; though there be 6)");
        TowThatJerks six = Checks.towOf("p3010;p305;p305;p305;p305;p305;s40 20;v0;");
        s.due("bridge(3, 5) of six", six.bridge(3, 5), 28 - 4);
        s.due("count(0)", six.count(0), 6);
        // A chain's heft is 6 by figure 0: slack 5, base 9; heft 629 of 99 fathoms.
        s.due("bridge(2, 10)", Checks.towOf(NYLON).bridge(2, 10), 28 - 30);
        s.due("bridge(2, 99)", Checks.towOf("p3035;v0;").bridge(2, 99), 3 - 62);
        s.says("BRIDGE. -1000000001; -1000000003.");
        TowThatJerks x = Checks.towOf("p3035;v0;");
        int[][] wrong = {{-1, 5}, {8, 5}, {0, 0}, {0, -1}, {0, 100}};
        for (int[] w : wrong) {
            s.due("bridge(" + w[0] + ", " + w[1] + ")", x.bridge(w[0], w[1]), -1000000001);
        }
        s.due("bridge(0, 1)", x.bridge(0, 1), 0);
        s.due("bridge(7, 1)", x.bridge(7, 1), 0);
        s.due("bridge(0, 99)", x.bridge(0, 99), 3 - 23);
        s.due("bridge(7, 99)", x.bridge(7, 99), 3 - 23);
        s.due("bridge(0, 1)", new TowThatJerks().bridge(0, 1), -1000000003);
    }
}
